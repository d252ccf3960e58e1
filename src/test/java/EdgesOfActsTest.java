/**
 * The edges of 'Terms', AN ACT. Each run is done WALKED and then BY A MEMBER: "What a run comes to is
 * the same in either way; how it was done is counted."
 */
public final class EdgesOfActsTest implements Acts {
    private static final Due DUE = new Due("EdgesOfActsTest");
    private static final int LEAST = Integer.MIN_VALUE;
    private static final int MOST = Integer.MAX_VALUE;
    private static final int[] OF_ONE_BYTE = {SWAP, LOAD_AT_B, STORE_AT_B, TIMES};
    private static final int[] OF_TWO_BYTES = {SET, GROW, LOAD, STORE, GO_IF_ZERO, GO_IF_LEFT};

    public static void main(String[] args) {
        actsOfOneByte();
        actsOfTwoBytes();
        signedByte();
        growWraps();
        swapOfAll();
        loadFromFirstToLast();
        storeTheLowestBits();
        storeAtFirstAndLast();
        goEachWay();
        goToItself();
        goIfZeroOfZeroAlone();
        oneLessAndNotZero();
        callFirstToLast();
        loadAtBModulo();
        storeAtBModulo();
        timesWraps();
        kindsToTwelve();
        DUE.end();
    }

    private static void ended(String what, SelfChange x, int a, int b, int place) {
        DUE.answer(what + ": A", x.ran(0), a);
        DUE.answer(what + ": B", x.ran(1), b);
        DUE.answer(what + ": place", x.ran(6), place);
        DUE.answer(what + ": STEPS", x.ran(3) + x.ran(4), x.ran(2));
    }

    /** Over with A, B at a place, from A, B: WALKED, then BY A MEMBER. */
    private static void comesTo(String what, SelfChange x, int[] from, int[] to, int place) {
        DUE.answer(what, x.run(0, from[0], from[1], 9), 1);
        ended(what, x, to[0], to[1], place);
        DUE.answer(what + ": none BY MEMBERS", x.ran(3), 0);
        DUE.answer(what + ": make()", x.make(), 1);
        DUE.answer(what + " by a member", x.run(0, from[0], from[1], 9), 1);
        ended(what + " by a member", x, to[0], to[1], place);
        DUE.answer(what + ": none WALKED", x.ran(4), 0);
    }

    private static int[] ab(int a, int b) {
        return new int[] {a, b};
    }

    /** "AN ACT is a byte, its KIND", "it goes on at the place behind it", behind 255 at 0. */
    private static void actsOfOneByte() {
        int[] places = {0, 100, 254, 255};
        for (int kind : OF_ONE_BYTE) {
            for (int place : places) {
                SelfChange x = Stories.with(place, kind);
                DUE.answer("one STEP of KIND " + kind, x.run(0, 3, 50, 1), -4);
                DUE.answer("behind KIND " + kind + " at " + place, x.ran(6), (place + 1) % 256);
            }
        }
    }

    /** "and with KINDS 1, 2, 4 to 9 a second one, n behind it"; 6 goes on there with d 0. */
    private static void actsOfTwoBytes() {
        int[] places = {0, 100, 253, 254, 255};
        for (int place : places) {
            for (int kind : OF_TWO_BYTES) {
                SelfChange x = Stories.with(place, kind, 50);
                DUE.answer("one STEP of KIND " + kind, x.run(0, 3, 1, 1), -4);
                DUE.answer("behind KIND " + kind + " at " + place, x.ran(6), (place + 2) % 256);
            }
            SelfChange go = Stories.with(place, GO, 0);
            DUE.answer("GO of 0", go.run(0, 3, 1, 1), -4);
            DUE.answer("behind GO at " + place, go.ran(6), (place + 2) % 256);
            SelfChange call = Stories.with(place, CALL, 1);
            call.routine(50);
            DUE.answer("CALL and END", call.run(0, 3, 1, 2), -4);
            DUE.answer("behind CALL at " + place, call.ran(6), (place + 2) % 256);
        }
    }

    /** "d: n as a signed byte", in KINDS 1 and 2: 127 is the last one that is not below 0. */
    private static void signedByte() {
        for (int n = 0; n < 256; n++) {
            int d = n < 128 ? n : n - 256;
            comesTo("SET " + n, Stories.with(16, SET, n), ab(77, 5), ab(d, 5), 18);
            comesTo("GROW " + n, Stories.with(16, GROW, n), ab(1000, 5), ab(1000 + d, 5), 18);
        }
        comesTo("SET over the end", Stories.with(255, SET, 128), ab(0, 0), ab(-128, 0), 1);
    }

    /** "A and B are ints (wrapping)": KIND 2. */
    private static void growWraps() {
        comesTo("the most and 1", Stories.with(16, GROW, 1), ab(MOST, 5), ab(LEAST, 5), 18);
        comesTo("the most and 127", Stories.with(16, GROW, 127), ab(MOST, 5), ab(LEAST + 126, 5), 18);
        comesTo("the least less 1", Stories.with(16, GROW, 255), ab(LEAST, 5), ab(MOST, 5), 18);
        comesTo("the least less 128", Stories.with(16, GROW, 128), ab(LEAST, 5), ab(MOST - 127, 5), 18);
        comesTo("nothing to the most", Stories.with(16, GROW, 0), ab(MOST, 5), ab(MOST, 5), 18);
    }

    /** "3 A and B change places." */
    private static void swapOfAll() {
        comesTo("SWAP", Stories.with(16, SWAP), ab(LEAST, MOST), ab(MOST, LEAST), 17);
        comesTo("SWAP at 255", Stories.with(255, SWAP), ab(1, 0), ab(0, 1), 0);
    }

    /** "4 A becomes the byte at n": of the first and the last place, a byte 0 .. 255. */
    private static void loadFromFirstToLast() {
        int[] places = {0, 1, 254, 255};
        int[] bytes = {0, 127, 128, 255};
        for (int n : places) {
            for (int v : bytes) {
                SelfChange x = Stories.with(16, LOAD, n);
                x.write(n, v);
                comesTo("LOAD " + v + " from " + n, x, ab(-9, 5), ab(v, 5), 18);
            }
        }
    }

    /** "Of A as a byte its lowest eight bits": KINDS 5 and 11. */
    private static void storeTheLowestBits() {
        int[] values = {0, 1, 127, 128, 255, 256, 257, 511, -1, -128, -256, LEAST, MOST};
        for (int a : values) {
            SelfChange five = Stories.with(16, STORE, 200);
            SelfChange eleven = Stories.with(16, STORE_AT_B);
            five.write(200, 99);
            eleven.write(200, 99);
            comesTo("STORE of " + a, five, ab(a, 5), ab(a, 5), 18);
            comesTo("STORE AT B of " + a, eleven, ab(a, 200), ab(a, 200), 17);
            DUE.answer("the byte of " + a, five.read(200), Math.floorMod(a, 256));
            DUE.answer("the byte AT B of " + a, eleven.read(200), Math.floorMod(a, 256));
        }
    }

    /** "5 the byte at n becomes A": the first and the last place, and none beside. */
    private static void storeAtFirstAndLast() {
        int[] places = {0, 255};
        for (int n : places) {
            SelfChange x = Stories.with(16, STORE, n);
            comesTo("STORE at " + n, x, ab(7, 5), ab(7, 5), 18);
            DUE.answer("the place", x.read(n), 7);
            DUE.answer("the place before", x.read((n + 255) % 256), 0);
            DUE.answer("the place behind", x.read((n + 1) % 256), 0);
        }
    }

    /** "6 it goes on at the place behind the ACT and d": all d, modulo 256; likewise 7 and 8. */
    private static void goEachWay() {
        int[] places = {0, 100, 200, 254, 255};
        for (int place : places) {
            for (int d = -128; d < 128; d++) {
                // By -2 and -1 the act itself is met again: goToItself() has these.
                if (d != -2 && d != -1) {
                    goesTo(place, d);
                }
            }
        }
    }

    private static void goesTo(int place, int d) {
        int behind = (place + 2) % 256;
        int there = Math.floorMod(place + 2 + d, 256);
        String by = " at " + place + " by " + d;
        comesTo("GO" + by, Stories.with(place, GO, d & 255), ab(3, 5), ab(3, 5), there);
        comesTo("GO IF ZERO" + by, Stories.with(place, GO_IF_ZERO, d & 255), ab(0, 5), ab(0, 5), there);
        comesTo("no GO IF ZERO" + by, Stories.with(place, GO_IF_ZERO, d & 255), ab(1, 5), ab(1, 5), behind);
        comesTo("GO IF LEFT" + by, Stories.with(place, GO_IF_LEFT, d & 255), ab(3, 5), ab(3, 4), there);
        comesTo("no GO IF LEFT" + by, Stories.with(place, GO_IF_LEFT, d & 255), ab(3, 1), ab(3, 0), behind);
    }

    private static void goToItself() {
        SelfChange x = Stories.with(255, GO, 254);
        DUE.answer("GO to itself", x.run(0, 3, 5, 400), -4);
        DUE.answer("STEPS", x.ran(2), 400);
        DUE.answer("place", x.ran(6), 255);
        comesTo("GO IF LEFT to itself", Stories.with(255, GO_IF_LEFT, 254), ab(3, 8), ab(3, 0), 1);
        SelfChange y = Stories.with(255, GO, 255);
        DUE.answer("GO to its second byte", y.run(0, 3, 5, 400), -1);
        DUE.answer("STEPS", y.ran(2), 1);
        DUE.answer("place", y.ran(6), 0);
    }

    /** "7 likewise, if A is 0": not if its lowest bits alone are. */
    private static void goIfZeroOfZeroAlone() {
        int[] others = {1, -1, 256, -256, 65536, LEAST, MOST};
        comesTo("GO IF ZERO of 0", Stories.with(16, GO_IF_ZERO, 9), ab(0, 5), ab(0, 5), 27);
        for (int a : others) {
            comesTo("GO IF ZERO of " + a, Stories.with(16, GO_IF_ZERO, 9), ab(a, 0), ab(a, 0), 18);
        }
    }

    /** "8 B is one less; then likewise, if B is not 0", and the least B becomes the most. */
    private static void oneLessAndNotZero() {
        comesTo("GO IF LEFT of 1", Stories.with(16, GO_IF_LEFT, 9), ab(0, 1), ab(0, 0), 18);
        int[] others = {0, 2, -1, 257, 256, LEAST, MOST};
        for (int b : others) {
            comesTo("GO IF LEFT of " + b, Stories.with(16, GO_IF_LEFT, 9), ab(0, b), ab(0, b - 1), 27);
        }
    }

    /** "9 CALL: ROUTINE n begins", from the first to the last of ROUTINES 0 .. 9. */
    private static void callFirstToLast() {
        for (int n = 0; n < 10; n++) {
            SelfChange x = new SelfChange();
            for (int r = 0; r < 10; r++) {
                x.routine(20 * r);
            }
            Stories.bytes(x, 190, GROW, 1, CALL, n);
            Stories.bytes(x, 180, GO, 8);
            DUE.answer("CALL of " + n, x.run(9, 0, 0, 3), -4);
            DUE.answer("ROUTINE " + n + " begins", x.ran(6), 20 * n);
            DUE.answer("within", x.ran(7), 2);
        }
    }

    /** "10 A becomes the byte at B", "B as a place modulo 256". */
    private static void loadAtBModulo() {
        int[] places = {0, 1, 254, 255, 256, 257, 511, 512, -1, -2, -255, -256, -257, LEAST, LEAST + 1, MOST, MOST - 1};
        for (int b : places) {
            SelfChange x = Stories.with(100, LOAD_AT_B);
            x.put(254, 0x81828384L, 4);
            int at = Math.floorMod(b, 256);
            comesTo("LOAD AT " + b, x, ab(9, b), ab(at < 2 ? 0x83 + at : at - 254 + 0x81, b), 101);
        }
    }

    /** "11 the byte at B becomes A", "B as a place modulo 256". */
    private static void storeAtBModulo() {
        int[] places = {0, 1, 254, 255, 256, 257, 511, 512, -1, -2, -255, -256, -257, LEAST, LEAST + 1, MOST, MOST - 1};
        for (int b : places) {
            SelfChange x = Stories.with(100, STORE_AT_B);
            comesTo("STORE AT " + b, x, ab(9, b), ab(9, b), 101);
            for (int place : new int[] {0, 1, 2, 253, 254, 255}) {
                DUE.answer("read(" + place + ")", x.read(place), place == Math.floorMod(b, 256) ? 9 : 0);
            }
        }
    }

    /** "12 A becomes A times B", wrapping. */
    private static void timesWraps() {
        comesTo("the least times -1", Stories.with(16, TIMES), ab(LEAST, -1), ab(LEAST, -1), 17);
        comesTo("the most times 2", Stories.with(16, TIMES), ab(MOST, 2), ab(-2, 2), 17);
        comesTo("the most times itself", Stories.with(16, TIMES), ab(MOST, MOST), ab(1, MOST), 17);
        comesTo("65536 times itself", Stories.with(16, TIMES), ab(65536, 65536), ab(0, 65536), 17);
        comesTo("-1 times -1", Stories.with(16, TIMES), ab(-1, -1), ab(1, -1), 17);
        comesTo("0 times the least", Stories.with(16, TIMES), ab(0, LEAST), ab(0, LEAST), 17);
    }

    /** "Other KINDS are none": 12 is the last one, 13 to 255 are none. */
    private static void kindsToTwelve() {
        for (int kind = 0; kind < 256; kind++) {
            SelfChange x = Stories.with(255, kind);
            int answer = x.run(0, 1, 1, 1);
            boolean some = kind <= TIMES;
            DUE.answer("KIND " + kind + " is some", answer == -1 ? 0 : 1, some ? 1 : 0);
            DUE.answer("STEPS of KIND " + kind, x.ran(2), some ? 1 : 0);
        }
    }
}
