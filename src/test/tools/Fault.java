/** A FAULT of a text, as the plain model finds it. */
final class Fault extends RuntimeException {
    private static final long serialVersionUID = 1L;
    final int code;
    final int place;

    Fault(int code, int place) {
        super(null, null, false, false);
        this.code = code;
        this.place = place;
    }
}
