/** Promises 10 to 12 and 17: run, ran, alike, share. */
public final class RunTest {
    private static final Due DUE = new Due("RunTest");

    public static void main(String[] args) {
        acts();
        stores();
        jumps();
        calls();
        faults();
        spent();
        byMembers();
        dropsWithin();
        ranStays();
        alike();
        share();
        DUE.end();
    }

    /** Runs walked, then by a member where it can be made; both come to the same. */
    private static void comesTo(String what, int a, int b, int wantA, int wantB, int... bytes) {
        SelfChange x = Stories.with(32, bytes);
        DUE.answer(what, x.run(0, a, b, 400), 1);
        DUE.answer(what + ": A", x.ran(0), wantA);
        DUE.answer(what + ": B", x.ran(1), wantB);
        DUE.answer(what + ": all walked", x.ran(3), 0);
        int steps = x.ran(2);
        int place = x.ran(6);
        DUE.answer(what + ": make()", x.make(), 1);
        DUE.answer(what + " by a member", x.run(0, a, b, 400), 1);
        DUE.answer(what + " by a member: A", x.ran(0), wantA);
        DUE.answer(what + " by a member: B", x.ran(1), wantB);
        DUE.answer(what + " by a member: STEPS", x.ran(2), steps);
        DUE.answer(what + " by a member: place", x.ran(6), place);
        DUE.answer(what + ": all by members", x.ran(3), steps);
        DUE.answer(what + ": none walked", x.ran(4), 0);
    }

    private static void acts() {
        comesTo("END", 5, 6, 5, 6, 0);
        comesTo("SET 127", 5, 6, 127, 6, 1, 127, 0);
        comesTo("SET -128", 5, 6, -128, 6, 1, 128, 0);
        comesTo("GROW 5", Integer.MAX_VALUE, 6, Integer.MIN_VALUE + 4, 6, 2, 5, 0);
        comesTo("GROW -1", Integer.MIN_VALUE, 6, Integer.MAX_VALUE, 6, 2, 255, 0);
        comesTo("SWAP", 5, 6, 6, 5, 3, 0);
        comesTo("LOAD 34", 5, 6, 0, 6, 4, 34, 0);
        comesTo("LOAD 36, unsigned", 5, 6, 200, 6, 4, 36, 0, 0, 200);
        comesTo("LOAD AT B", 5, 33, 0, 33, 10, 0);
        comesTo("LOAD AT B modulo 256", 5, 256 * 3 + 34, 201, 256 * 3 + 34, 10, 0, 201);
        comesTo("LOAD AT a negative B", 5, -222, 201, -222, 10, 0, 201);
        comesTo("TIMES", 70000, 70000, 70000 * 70000, 70000, 12, 0);
        comesTo("TIMES of negatives", -3, 7, -21, 7, 12, 0);
    }

    private static void stores() {
        SelfChange x = Stories.with(32, 5, 200, 11, 0);
        DUE.answer("run", x.run(0, -2, -55, 400), 1);
        DUE.answer("A stays", x.ran(0), -2);
        DUE.answer("STORE: the lowest eight bits", x.read(200), 254);
        DUE.answer("STORE AT B: modulo 256", x.read(201), 254);
        DUE.answer("bytes that became others", x.ran(8), 2);
        int kept = x.count(3);
        DUE.answer("again", x.run(0, -2, -55, 400), 1);
        DUE.answer("none became another", x.ran(8), 0);
        DUE.answer("nothing is KEPT", x.count(3), kept);
        DUE.answer("other numbers", x.run(0, 0x1234, Integer.MAX_VALUE, 400), 1);
        DUE.answer("STORE", x.read(200), 0x34);
        DUE.answer("STORE AT B", x.read(255), 0x34);
    }

    private static void jumps() {
        comesTo("GO", 5, 6, 5, 6, 6, 2, 1, 9, 0);
        comesTo("GO IF ZERO, of 0", 0, 6, 0, 6, 7, 2, 1, 9, 0);
        comesTo("GO IF ZERO, of 256", 256, 6, 9, 6, 7, 2, 1, 9, 0);
        comesTo("GO IF LEFT, of 1", 5, 1, 9, 0, 8, 2, 1, 9, 0);
        comesTo("GO IF LEFT, of 2", 5, 2, 5, 1, 8, 2, 1, 9, 0);
        comesTo("GO IF LEFT, of 0", 5, 0, 5, -1, 8, 2, 1, 9, 0);
        comesTo("GO IF LEFT, of the least", 5, Integer.MIN_VALUE, 5, Integer.MAX_VALUE, 8, 2, 1, 9, 0);
        comesTo("a loop of ten", 0, 10, 30, 0, 2, 3, 8, 252, 0);
        SelfChange x = Stories.with(0, 6, 253);
        x.write(255, 0);
        DUE.answer("back over the beginning", x.run(0, 0, 0, 10), 1);
        DUE.answer("its place", x.ran(6), 255);
        x = Stories.with(255, 1, 7, 0);
        DUE.answer("an act over the end", x.run(0, 0, 0, 10), 1);
        DUE.answer("A", x.ran(0), 7);
        DUE.answer("its place", x.ran(6), 1);
    }

    private static void calls() {
        SelfChange x = Stories.with(16, 9, 1, 2, 1, 9, 2, 0);
        x.routine(48);
        x.routine(80);
        Stories.bytes(x, 48, 2, 10, 9, 2, 0);
        Stories.bytes(x, 80, 2, 100, 0);
        DUE.answer("run", x.run(0, 0, 0, 400), 1);
        DUE.answer("A", x.ran(0), 211);
        DUE.answer("STEPS", x.ran(2), 11);
        DUE.answer("the place of the last END", x.ran(6), 22);
        DUE.answer("the most within", x.ran(7), 3);
        x.write(16, 0);
        DUE.answer("a run without calls", x.run(0, 0, 0, 400), 1);
        DUE.answer("the most within", x.ran(7), 1);
        DUE.answer("SPENT within a call", x.run(1, 0, 0, 2), -4);
        DUE.answer("would be next", x.ran(6), 80);
        DUE.answer("SPENT behind an END within", x.run(1, 0, 0, 4), -4);
        DUE.answer("would be next", x.ran(6), 52);
        DUE.answer("the last END as the last step", x.run(1, 0, 0, 5), 1);
    }

    private static void faults() {
        SelfChange x = Stories.with(16, 3, 13);
        DUE.answer("NONE", x.run(0, 1, 2, 400), -1);
        DUE.answer("it is no STEP", x.ran(2), 1);
        DUE.answer("its place", x.ran(6), 17);
        DUE.answer("what was done stays", x.ran(0), 2);
        DUE.answer("SPENT ahead of what would be next", x.run(0, 1, 2, 1), -4);
        DUE.answer("its place", x.ran(6), 17);
        Stories.bytes(x, 16, 3, 9, 1);
        DUE.answer("ROUTINE", x.run(0, 1, 2, 400), -2);
        DUE.answer("it is a STEP", x.ran(2), 2);
        DUE.answer("its place", x.ran(6), 17);
        DUE.answer("within", x.ran(7), 1);
        DUE.answer("ROUTINE at the last STEP", x.run(0, 1, 2, 2), -2);
        x.write(18, 255);
        DUE.answer("ROUTINE 255", x.run(0, 1, 2, 400), -2);
        deep();
    }

    private static void deep() {
        SelfChange x = new SelfChange();
        for (int r = 0; r < 7; r++) {
            x.routine(16 * r);
            Stories.bytes(x, 16 * r, 9, r + 1, 0);
        }
        DUE.answer("DEEP ahead of ROUTINE", x.run(1, 0, 0, 400), -3);
        DUE.answer("its place", x.ran(6), 96);
        DUE.answer("STEPS", x.ran(2), 6);
        DUE.answer("within", x.ran(7), 6);
        DUE.answer("ROUTINE with five within", x.run(2, 0, 0, 400), -2);
        DUE.answer("STEPS", x.ran(2), 5);
        x.write(80, 0);
        DUE.answer("six within", x.run(0, 0, 0, 400), 1);
        DUE.answer("STEPS", x.ran(2), 11);
        DUE.answer("within", x.ran(7), 6);
        DUE.answer("make()", x.make(), 7);
        x.write(80, 9);
        DUE.answer("DEEP by members", x.run(0, 0, 0, 400), -3);
        DUE.answer("by members", x.ran(3), 5);
        DUE.answer("walked", x.ran(4), 1);
    }

    private static void spent() {
        SelfChange x = Stories.with(16, 2, 1, 6, 252);
        DUE.answer("SPENT", x.run(0, 0, 0, 400), -4);
        DUE.answer("STEPS", x.ran(2), 400);
        DUE.answer("A", x.ran(0), 200);
        DUE.answer("would be next", x.ran(6), 16);
        DUE.answer("SPENT at once", x.run(0, 0, 0, 1), -4);
        DUE.answer("would be next", x.ran(6), 18);
        x.write(18, 0);
        DUE.answer("over with the last STEP", x.run(0, 0, 0, 2), 1);
        DUE.answer("not over with one less", x.run(0, 0, 0, 1), -4);
    }

    private static void byMembers() {
        // Routine 1 has no member as it runs into no kind; routine 0 calls it.
        SelfChange x = Stories.with(16, 9, 1, 0);
        x.routine(48);
        Stories.bytes(x, 48, 2, 1, 7, 1, 0, 99);
        DUE.answer("make()", x.make(), 1);
        DUE.answer("run", x.run(0, 0, 0, 400), 1);
        DUE.answer("BY MEMBERS: the CALL, the last END", x.ran(3), 2);
        DUE.answer("WALKED", x.ran(4), 3);
        // Routine 2 begins in what is a head of routine 0, and has no member of its own.
        x.routine(18);
        DUE.answer("run in another's head", x.run(2, 0, 0, 400), 1);
        DUE.answer("BY MEMBERS", x.ran(3), 0);
        DUE.answer("WALKED", x.ran(4), 1);
        DUE.answer("NONE is neither", x.run(1, -1, 0, 400), -1);
        DUE.answer("WALKED", x.ran(4), 2);
    }

    private static void dropsWithin() {
        // SET 3, then STORE at 20: its own next act, GROW 1, becomes SWAP, and then comes SET 0, END.
        SelfChange x = Stories.with(16, 1, 3, 5, 20, 2, 1, 0);
        x.routine(20);
        DUE.answer("make()", x.make(), 2);
        DUE.answer("alike", x.alike(0, 0, 0, 400), 1);
        DUE.answer("alike changes nothing", x.count(1), 2);
        DUE.answer("run", x.run(0, 0, 9, 400), 1);
        DUE.answer("BY MEMBERS till the drop", x.ran(3), 2);
        DUE.answer("WALKED behind it", x.ran(4), 3);
        DUE.answer("DROPPED in it", x.ran(5), 2);
        DUE.answer("A", x.ran(0), 0);
        DUE.answer("B", x.ran(1), 3);
        DUE.answer("place", x.ran(6), 23);
        DUE.answer("DROPPED in all", x.count(6), 2);
        DUE.answer("LOOKS", x.count(4), 1);
        DUE.answer("KEPT", x.count(3), 7);
        DUE.answer("undo()", x.undo(), 200);
        DUE.answer("none aside when back", x.member(0, 5), 0);
        DUE.answer("ran(5) stays", x.ran(5), 2);
        changedAndBack();
    }

    private static void changedAndBack() {
        // The byte at 200 becomes 1 and then 0 again: a byte was changed, so MEMORY is KEPT.
        SelfChange x = Stories.with(16, 1, 1, 5, 200, 1, 0, 5, 200, 0);
        DUE.answer("KEPT", x.count(3), 7);
        DUE.answer("run", x.run(0, 0, 0, 400), 1);
        DUE.answer("bytes that became others", x.ran(8), 2);
        DUE.answer("KEPT", x.count(3), 8);
    }

    private static void ranStays() {
        SelfChange x = Stories.with(16, 1, 4, 5, 200, 0);
        x.run(0, 7, 8, 9);
        int[] want = {4, 8, 3, 0, 3, 0, 20, 1, 1};
        x.write(16, 3);
        x.make();
        x.alike(0, 1, 1, 1);
        x.undo();
        for (int what = 0; what < 9; what++) {
            DUE.answer("ran(" + what + ")", x.ran(what), want[what]);
        }
    }

    private static void alike() {
        SelfChange x = Stories.with(16, 1, 3, 5, 20, 2, 1, 0);
        x.make();
        x.run(0, 1, 1, 1);
        for (int steps = 1; steps < 9; steps++) {
            DUE.answer("alike of " + steps, x.alike(0, steps, -steps, steps), 1);
        }
        DUE.answer("alike of 400", x.alike(0, 0, 0, 400), 1);
        // A run that reads what it wrote: the walk must begin with MEMORY as it is now.
        SelfChange grows = Stories.with(16, 4, 200, 2, 1, 5, 200, 0);
        grows.make();
        DUE.answer("alike of a run that grows a byte", grows.alike(0, 0, 0, 400), 1);
        DUE.answer("the byte", grows.read(200), 0);
    }

    private static void share() {
        SelfChange x = Stories.with(16, 2, 1, 6, 252);
        DUE.exception("share() without steps", ArithmeticException.class, x::share);
        x.make();
        x.run(0, 0, 0, 399);
        DUE.exception("share() without walked ones", ArithmeticException.class, x::share);
        x.write(17, 2);
        x.alike(0, 0, 0, 400);
        DUE.exception("share() behind alike()", ArithmeticException.class, x::share);
        x.run(0, 0, 0, 2);
        DUE.answer("399 by 2", x.share(), 199);
        x.run(0, 0, 0, 398);
        DUE.answer("399 by 400", x.share(), 0);
    }
}
