/** Promises 14 to 16, 18 and 19: snapshot, restore, undo, count, clear. */
public final class ReturnTest {
    private static final Due DUE = new Due("ReturnTest");

    public static void main(String[] args) {
        snapshots();
        restoreDropsAndBrings();
        keptStayAtRestore();
        undoInOrder();
        mostKept();
        backAndForGood();
        backOfItsOwnBytesAlone();
        looksInOrder();
        counts();
        clear();
        DUE.end();
    }

    private static void snapshots() {
        SelfChange x = new SelfChange();
        for (int i = 0; i < 4; i++) {
            x.write(9, i + 1);
            DUE.answer("snapshot()", x.snapshot(), i);
        }
        DUE.answer("a fifth", x.snapshot(), SelfChange.FULL);
        x.write(9, 77);
        for (int i = 3; i >= 0; i--) {
            DUE.answer("restore(" + i + ")", x.restore(i), 0);
            DUE.answer("read(9)", x.read(9), i + 1);
        }
        DUE.answer("SNAPSHOTS stay", x.count(2), 4);
    }

    private static void restoreDropsAndBrings() {
        SelfChange x = Stories.with(16, 3, 0);
        x.routine(32);
        x.routine(48);
        x.make();
        x.snapshot();
        DUE.answer("put", x.put(16, 0x0C00L, 2), 1);
        DUE.answer("write", x.write(32, 3), 1);
        DUE.answer("restore(0)", x.restore(0), 200);
        DUE.answer("HEADS", x.member(0, 1), 2);
        DUE.answer("MEMBERS", x.count(1), 3);
        DUE.answer("page(1)", x.page(1), 1);
        x.write(48, 12);
        x.snapshot();
        x.restore(0);
        DUE.answer("both at once", x.restore(1), 1);
        DUE.answer("and back", x.restore(0), 100);
        DUE.answer("a restore() of what is there", x.restore(0), 0);
        DUE.answer("DROPPED", x.member(2, 3), 2);
        x.write(16, 0);
        DUE.answer("one is DROPPED, one BACK", x.restore(1), 101);
        DUE.answer("BACK in all", x.count(7), 5);
    }

    private static void keptStayAtRestore() {
        SelfChange x = new SelfChange();
        x.write(1, 1);
        x.snapshot();
        x.write(2, 2);
        DUE.answer("KEPT", x.count(3), 2);
        x.restore(0);
        DUE.answer("KEPT stay, and restore() keeps none", x.count(3), 2);
        DUE.answer("undo()", x.undo(), 0);
        DUE.answer("read(1)", x.read(1), 1);
        DUE.answer("read(2)", x.read(2), 0);
        x.undo();
        DUE.answer("read(1)", x.read(1), 0);
        DUE.answer("undo()", x.undo(), SelfChange.STATE);
    }

    private static void undoInOrder() {
        SelfChange x = Stories.with(16, 5, 200, 0);
        x.put(100, 0x0102L, 2);
        x.run(0, 7, 0, 9);
        x.write(200, 7);
        DUE.answer("KEPT", x.count(3), 4);
        x.undo();
        DUE.answer("read(200) before the run", x.read(200), 0);
        DUE.answer("read(101)", x.read(101), 2);
        x.undo();
        DUE.answer("read(101) before the put", x.read(101), 0);
        DUE.answer("KEPT", x.count(3), 2);
        DUE.answer("read(17)", x.read(17), 200);
        x.undo();
        DUE.answer("read(17) before the write", x.read(17), 0);
    }

    private static void mostKept() {
        SelfChange x = new SelfChange();
        for (int i = 1; i <= 20; i++) {
            x.write(9, i);
            x.write(9, i);
            DUE.answer("KEPT", x.count(3), Math.min(i, 8));
        }
        for (int i = 19; i >= 15; i--) {
            DUE.answer("undo()", x.undo(), 0);
            DUE.answer("read(9)", x.read(9), i);
        }
        for (int i = 1; i <= 6; i++) {
            x.write(9, 100 + i);
        }
        DUE.answer("KEPT", x.count(3), 8);
        int[] want = {105, 104, 103, 102, 101, 15, 14, 13};
        for (int value : want) {
            DUE.answer("undo()", x.undo(), 0);
            DUE.answer("read(9)", x.read(9), value);
        }
        DUE.answer("undo()", x.undo(), SelfChange.STATE);
        DUE.answer("read(9)", x.read(9), 13);
    }

    private static void backAndForGood() {
        SelfChange x = new SelfChange();
        x.routine(16);
        x.make();
        for (int i = 1; i <= 2; i++) {
            DUE.answer("write", x.write(16, 3), 1);
            DUE.answer("undo()", x.undo(), 100);
            DUE.answer("none aside", x.member(0, 5), 0);
            DUE.answer("DROPPED", x.member(0, 3), i);
        }
        DUE.answer("the third drop", x.write(16, 3), 1);
        DUE.answer("WALKED for good", x.member(0, 4), 1);
        DUE.answer("undo() brings it not back", x.undo(), 0);
        DUE.answer("it lies aside still", x.member(0, 5), 1);
        DUE.answer("MEMBERS made", x.count(5), 1);
        DUE.answer("DROPPED", x.count(6), 3);
        DUE.answer("BACK", x.count(7), 2);
    }

    private static void backOfItsOwnBytesAlone() {
        SelfChange x = Stories.with(16, 1, 5, 0);
        x.make();
        x.snapshot();
        x.write(17, 6);
        x.write(17, 5);
        x.write(200, 1);
        x.write(201, 1);
        DUE.answer("its bytes are as they were, others not", x.undo(), 100);
        x.write(18, 3);
        x.write(100, 1);
        DUE.answer("its bytes are not as they were", x.undo(), 0);
        DUE.answer("now they are", x.undo(), 100);
        x.write(17, 9);
        DUE.answer("DROPPED three times", x.restore(0), 0);
        operandsCount();
        noneBackBesideAMember();
    }

    private static void operandsCount() {
        SelfChange x = Stories.with(16, 1, 5, 0);
        x.make();
        x.write(17, 6);
        x.snapshot();
        DUE.answer("an operand is another one", x.restore(0), 0);
        DUE.answer("it lies aside", x.member(0, 5), 1);
        DUE.answer("the operand as it was", x.undo(), 100);
    }

    private static void noneBackBesideAMember() {
        SelfChange x = Stories.with(16, 1, 5, 0);
        x.make();
        x.write(17, 6);
        x.write(17, 5);
        DUE.answer("make() of the same bytes", x.make(), 1);
        x.write(200, 1);
        DUE.answer("undo() with a member", x.undo(), 0);
        DUE.answer("the other one lies aside", x.member(0, 5), 1);
    }

    private static void looksInOrder() {
        SelfChange x = new SelfChange();
        x.routine(20);
        x.snapshot();
        x.put(16, 0x0101010101010101L, 8);
        x.snapshot();
        x.restore(0);
        DUE.answer("no members, no LOOKS", x.count(4), 0);
        x.make();
        // 16 .. 19 lie in the page of the member, 20 drops it, 21 .. 23 are not looked at.
        DUE.answer("restore(1)", x.restore(1), 1);
        DUE.answer("LOOKS", x.count(4), 5);
        x.restore(0);
        DUE.answer("BACK, when all bytes are done", x.member(0, 0), 1);
        DUE.answer("LOOKS", x.count(4), 5);
        x.write(31, 1);
        DUE.answer("the page's last place", x.count(4), 6);
        x.write(32, 1);
        DUE.answer("another page", x.count(4), 6);
        x.write(31, 1);
        DUE.answer("what becomes what it is", x.count(4), 6);
        x.undo();
        x.undo();
        DUE.answer("undo() looks too", x.count(4), 7);
    }

    private static void counts() {
        SelfChange x = Stories.with(16, 3, 0);
        x.routine(32);
        x.make();
        x.write(32, 3);
        x.undo();
        x.write(16, 0);
        x.snapshot();
        int[] want = {2, 1, 1, 2, 2, 2, 2, 1, 0};
        for (int what = 0; what < 9; what++) {
            DUE.answer("count(" + what + ")", x.count(what), want[what]);
        }
        int[] wrong = {-1, 9, Integer.MIN_VALUE, Integer.MAX_VALUE};
        for (int what : wrong) {
            DUE.answer("count(" + what + ")", x.count(what), SelfChange.OUTSIDE);
        }
    }

    private static void clear() {
        SelfChange x = Stories.with(16, 5, 16, 0);
        x.routine(32);
        x.make();
        x.run(1, 0, 0, 1);
        x.run(1, 0, 0, 1);
        x.snapshot();
        for (int i = 0; i < 4; i++) {
            x.run(0, 9, 9, 9);
            x.undo();
        }
        DUE.answer("a member is there still", x.page(2), 1);
        DUE.answer("clear()", x.clear(), 2);
        DUE.answer("restore(0)", x.restore(0), SelfChange.UNKNOWN);
        DUE.answer("undo()", x.undo(), SelfChange.STATE);
        DUE.answer("clear() again", x.clear(), 0);
        DUE.answer("routine(16)", x.routine(16), 0);
        for (int what = 0; what < 6; what++) {
            DUE.answer("member(0, " + what + ")", x.member(0, what), 0);
        }
        DUE.answer("make()", x.make(), 1);
        DUE.answer("page(2) without the old member", x.page(2), 0);
        DUE.answer("run", x.run(0, 1, 2, 3), 1);
        DUE.answer("ran(3)", x.ran(3), 1);
        x.write(16, 3);
        x.run(0, 1, 2, 1);
        DUE.answer("share() of the new steps alone", x.share(), 1);
        DUE.answer("snapshot()", x.snapshot(), 0);
    }
}
