/** Makes objects with bytes in them, for the tests. */
final class Stories {
    private Stories() {
    }

    static void bytes(SelfChange x, int place, int... values) {
        for (int i = 0; i < values.length; i++) {
            x.write((place + i) & 255, values[i]);
        }
    }

    /** A new object with one routine of these bytes at a place. */
    static SelfChange with(int place, int... values) {
        SelfChange x = new SelfChange();
        x.routine(place);
        bytes(x, place, values);
        return x;
    }

    /** All that can be asked of an object without changing it. */
    static String seen(SelfChange x) {
        StringBuilder all = new StringBuilder();
        for (int i = 0; i < 256; i++) {
            all.append(x.read(i)).append(' ');
        }
        for (int i = 0; i < 9; i++) {
            all.append("count ").append(x.count(i)).append(" ran ").append(x.ran(i)).append(' ');
        }
        for (int r = 0; r < x.count(0); r++) {
            for (int what = 0; what < 7; what++) {
                all.append(x.member(r, what)).append(' ');
            }
            all.append(x.makeable(r)).append(' ');
            for (int i = 0; i < x.member(r, 1); i++) {
                all.append("head ").append(x.head(r, i)).append(' ');
            }
        }
        for (int page = 0; page < 16; page++) {
            all.append("page ").append(x.page(page)).append(' ');
        }
        try {
            all.append("share ").append(x.share());
        } catch (ArithmeticException e) {
            all.append("no share");
        }
        return all.toString();
    }
}
