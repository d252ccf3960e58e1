/** Promises 1 to 4: a new object, put, write, read. */
public final class BytesTest {
    private static final Due DUE = new Due("BytesTest");

    public static void main(String[] args) {
        newObject();
        putBytes();
        putDrops();
        writeByte();
        readPlaces();
        DUE.end();
    }

    private static void newObject() {
        SelfChange x = new SelfChange();
        for (int place = 0; place < 256; place++) {
            DUE.answer("read of a new object", x.read(place), 0);
        }
        for (int what = 0; what < 9; what++) {
            DUE.answer("count(" + what + ") of a new object", x.count(what), 0);
            DUE.answer("ran(" + what + ") of a new object", x.ran(what), 0);
        }
        for (int page = 0; page < 16; page++) {
            DUE.answer("page of a new object", x.page(page), 0);
        }
        DUE.answer("member(0, 0)", x.member(0, 0), SelfChange.UNKNOWN);
        DUE.answer("make()", x.make(), 0);
        DUE.answer("undo()", x.undo(), SelfChange.STATE);
        DUE.answer("restore(0)", x.restore(0), SelfChange.UNKNOWN);
        DUE.exception("share()", ArithmeticException.class, x::share);
    }

    private static void putBytes() {
        SelfChange x = new SelfChange();
        DUE.answer("put 8", x.put(10, 0x01020304050607FFL, 8), 0);
        for (int i = 0; i < 7; i++) {
            DUE.answer("read(" + (10 + i) + ")", x.read(10 + i), i + 1);
        }
        DUE.answer("read(17)", x.read(17), 255);
        DUE.answer("read(18)", x.read(18), 0);
        x.put(30, 0x112233L, 2);
        DUE.answer("the lowest two, first", x.read(30), 0x22);
        DUE.answer("the lowest two, second", x.read(31), 0x33);
        x.put(254, 0x0A0B0CL, 3);
        DUE.answer("read(254)", x.read(254), 10);
        DUE.answer("read(255)", x.read(255), 11);
        DUE.answer("read(0) behind 255", x.read(0), 12);
        x.put(40, -1L, 8);
        DUE.answer("read(40) of -1", x.read(40), 255);
        DUE.answer("read(47) of -1", x.read(47), 255);
        x.put(50, 0x8000000000000000L, 8);
        DUE.answer("read(50) of the least long", x.read(50), 128);
        x.put(60, 0x1FFL, 1);
        DUE.answer("read(60)", x.read(60), 255);
    }

    private static void putDrops() {
        SelfChange x = new SelfChange();
        x.routine(16);
        x.routine(18);
        x.routine(20);
        DUE.answer("make()", x.make(), 3);
        DUE.answer("put that changes nothing", x.put(16, 0L, 8), 0);
        DUE.answer("KEPT", x.count(3), 0);
        DUE.answer("put beside", x.put(17, 7L, 1), 0);
        DUE.answer("put over two members", x.put(16, 0x03030300L, 4), 2);
        DUE.answer("member(2, 0)", x.member(2, 0), 1);
        DUE.answer("DROPPED", x.count(6), 2);
        // 16 (a look, a drop), 17 and 18 (looks, a drop): the member at 20 stays in the page.
        DUE.answer("LOOKS", x.count(4), 4);
        DUE.answer("KEPT", x.count(3), 2);
    }

    private static void writeByte() {
        SelfChange x = Stories.with(16, 1, 2, 0);
        x.routine(18);
        x.make();
        DUE.answer("write of the same", x.write(17, 2), 0);
        DUE.answer("write beside", x.write(19, 2), 0);
        DUE.answer("write in two members", x.write(18, 3), 2);
        DUE.answer("read(18)", x.read(18), 3);
        DUE.answer("write again", x.write(18, 0), 0);
        DUE.answer("a write brings none back", x.member(0, 0), 0);
        DUE.answer("write(0, 255)", x.write(0, 255), 0);
        DUE.answer("read(0)", x.read(0), 255);
        DUE.answer("write(255, 255)", x.write(255, 255), 0);
        DUE.answer("read(255)", x.read(255), 255);
    }

    private static void readPlaces() {
        SelfChange x = new SelfChange();
        x.write(255, 200);
        DUE.answer("read(255)", x.read(255), 200);
        int[] wrong = {-1, 256, Integer.MIN_VALUE, Integer.MAX_VALUE};
        for (int place : wrong) {
            DUE.exception("read(" + place + ")", ArrayIndexOutOfBoundsException.class, () -> x.read(place));
        }
    }
}
