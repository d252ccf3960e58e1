/** Promises 5 to 9 and 13: routine, make, member, head, makeable, page. */
public final class MembersTest {
    private static final Due DUE = new Due("MembersTest");

    public static void main(String[] args) {
        routines();
        headsOfEachKind();
        headsWrapAround();
        notMakeable();
        mostHeads();
        makeCounts();
        walkedForGood();
        asideInPlaceOfAnother();
        pages();
        DUE.end();
    }

    private static void routines() {
        SelfChange x = new SelfChange();
        DUE.answer("routine(-1)", x.routine(-1), SelfChange.OUTSIDE);
        DUE.answer("routine(256)", x.routine(256), SelfChange.OUTSIDE);
        for (int r = 0; r < 10; r++) {
            DUE.answer("routine", x.routine(r < 9 ? 255 - r : 255), r);
            DUE.answer("its place", x.member(r, 6), r < 9 ? 255 - r : 255);
        }
        DUE.answer("the eleventh", x.routine(0), SelfChange.FULL);
        DUE.answer("OUTSIDE ahead of FULL", x.routine(256), SelfChange.OUTSIDE);
        DUE.answer("ROUTINES", x.count(0), 10);
    }

    private static void heads(String what, SelfChange x, int places, int... heads) {
        DUE.answer(what + ": makeable", x.makeable(0), 1);
        DUE.answer(what + ": make()", x.make(), 1);
        DUE.answer(what + ": HEADS", x.member(0, 1), heads.length);
        DUE.answer(what + ": places", x.member(0, 2), places);
        for (int i = 0; i < heads.length && i < x.member(0, 1); i++) {
            DUE.answer(what + ": head(0, " + i + ")", x.head(0, i), heads[i]);
        }
    }

    private static void headsOfEachKind() {
        heads("END", Stories.with(8, 0, 99), 1, 8);
        heads("SET", Stories.with(8, 1, 99, 0), 3, 8, 10);
        heads("GROW", Stories.with(8, 2, 99, 0), 3, 8, 10);
        heads("SWAP", Stories.with(8, 3, 0, 99), 2, 8, 9);
        heads("LOAD", Stories.with(8, 4, 99, 0), 3, 8, 10);
        heads("STORE", Stories.with(8, 5, 99, 0), 3, 8, 10);
        heads("GO", Stories.with(8, 6, 1, 99, 0), 3, 8, 11);
        heads("GO to itself", Stories.with(8, 6, 254, 99), 2, 8);
        heads("GO IF ZERO", Stories.with(8, 7, 1, 0, 0, 99), 4, 8, 10, 11);
        heads("GO IF LEFT", Stories.with(8, 8, 255 - 7, 0), 4, 2, 8, 10);
        heads("CALL", Stories.with(8, 9, 99, 0, 99), 3, 8, 10);
        heads("LOAD AT B", Stories.with(8, 10, 0, 99), 2, 8, 9);
        heads("STORE AT B", Stories.with(8, 11, 0, 99), 2, 8, 9);
        heads("TIMES", Stories.with(8, 12, 0, 99), 2, 8, 9);
        heads("GO far ahead", Stories.with(8, 6, 127, 99), 3, 8, 137);
        heads("GO far back", Stories.with(200, 6, 128, 99), 3, 74, 200);
    }

    private static void headsWrapAround() {
        heads("an act over the end", Stories.with(255, 1, 5, 0), 3, 1, 255);
        heads("a step over the end", Stories.with(255, 3, 0), 2, 0, 255);
        heads("back over the beginning", Stories.with(0, 6, 253), 3, 0, 255);
    }

    private static void notMakeable() {
        SelfChange x = Stories.with(8, 13);
        DUE.answer("kind 13", x.makeable(0), 0);
        x.write(8, 255);
        DUE.answer("kind 255", x.makeable(0), 0);
        x = Stories.with(8, 7, 1, 0, 200);
        DUE.answer("no kind where it may go", x.makeable(0), 0);
        x.write(11, 0);
        DUE.answer("a kind where it may go", x.makeable(0), 1);
        x = Stories.with(8, 6, 255);
        x.write(9, 255);
        DUE.answer("a jump into itself", x.makeable(0), 0);
        // 8: SET 0, 10: back to 9, where an END is the operand of the first act.
        x = Stories.with(8, 1, 0, 6, 253);
        DUE.answer("a place in two acts", x.makeable(0), 0);
        DUE.answer("make()", x.make(), 0);
        DUE.answer("member(0, 0)", x.member(0, 0), 0);
        // 255: SET with its operand at 0, and a jump to 0 from 1.
        x = Stories.with(255, 1, 0, 6, 253);
        DUE.answer("a place in two acts over the end", x.makeable(0), 0);
        DUE.answer("makeable(-1)", x.makeable(-1), SelfChange.UNKNOWN);
        DUE.answer("makeable(1)", x.makeable(1), SelfChange.UNKNOWN);
    }

    private static void mostHeads() {
        SelfChange x = new SelfChange();
        x.routine(100);
        for (int i = 0; i < 23; i++) {
            x.write(100 + i, 3);
        }
        DUE.answer("24 HEADS", x.makeable(0), 1);
        DUE.answer("make()", x.make(), 1);
        DUE.answer("HEADS", x.member(0, 1), 24);
        DUE.answer("the last HEAD", x.head(0, 23), 123);
        DUE.answer("write", x.write(123, 3), 1);
        DUE.answer("25 HEADS", x.makeable(0), 0);
        DUE.answer("make()", x.make(), 0);
        for (int i = 0; i < 23; i++) {
            Stories.bytes(x, 100 + 2 * i, 2, 1);
        }
        x.write(146, 0);
        DUE.answer("24 HEADS of 47 places", x.make(), 1);
        DUE.answer("places", x.member(0, 2), 47);
    }

    private static void makeCounts() {
        SelfChange x = new SelfChange();
        x.routine(0);
        x.routine(16);
        x.routine(32);
        x.write(16, 77);
        DUE.answer("make() of two", x.make(), 2);
        DUE.answer("make() of none", x.make(), 0);
        DUE.answer("MEMBERS", x.count(1), 2);
        x.write(16, 0);
        DUE.answer("make() of the third", x.make(), 1);
        x.write(0, 3);
        DUE.answer("make() of one again", x.make(), 1);
        DUE.answer("MEMBERS made", x.count(5), 4);
        DUE.answer("makeable with a member", x.makeable(0), 1);
    }

    private static void walkedForGood() {
        SelfChange x = new SelfChange();
        x.routine(16);
        for (int i = 1; i <= 3; i++) {
            DUE.answer("not for good yet", x.member(0, 4), 0);
            DUE.answer("make()", x.make(), 1);
            DUE.answer("write", x.write(16, i % 2 == 0 ? 0 : 3), 1);
            DUE.answer("DROPPED", x.member(0, 3), i);
        }
        DUE.answer("for good", x.member(0, 4), 1);
        DUE.answer("the last lies aside", x.member(0, 5), 1);
        DUE.answer("could be made", x.makeable(0), 1);
        DUE.answer("is not made", x.make(), 0);
        DUE.answer("undo() brings none back", x.undo(), 0);
        DUE.answer("ROUTINES for good", x.count(8), 1);
        DUE.answer("a routine at the same place", x.routine(16), 1);
        DUE.answer("is made", x.make(), 1);
    }

    private static void asideInPlaceOfAnother() {
        SelfChange x = new SelfChange();
        x.routine(16);
        x.snapshot();
        x.make();
        DUE.answer("none aside", x.member(0, 5), 0);
        x.write(16, 3);
        DUE.answer("one aside", x.member(0, 5), 1);
        x.make();
        DUE.answer("one aside beside a member", x.member(0, 5), 1);
        // The member of SWAP, END goes aside now, in place of the one of END alone.
        DUE.answer("restore(0)", x.restore(0), 1);
        DUE.answer("none is back", x.member(0, 0), 0);
        DUE.answer("write", x.write(200, 1), 0);
        DUE.answer("undo()", x.undo(), 0);
        DUE.answer("the write of SWAP is KEPT", x.count(3), 1);
    }

    private static void pages() {
        SelfChange x = Stories.with(15, 1, 0, 0);
        x.routine(16);
        x.routine(255);
        x.write(16, 5);
        x.write(17, 0);
        x.write(255, 3);
        x.write(0, 0);
        DUE.answer("page(0) without members", x.page(0), 0);
        x.write(16, 0);
        DUE.answer("make()", x.make(), 3);
        DUE.answer("page(0)", x.page(0), 2);
        DUE.answer("page(1)", x.page(1), 2);
        DUE.answer("page(15)", x.page(15), 1);
        DUE.answer("page(2)", x.page(2), 0);
        DUE.answer("write", x.write(17, 1), 1);
        DUE.answer("page(0) behind a drop", x.page(0), 1);
        DUE.answer("page(1) behind a drop", x.page(1), 1);
        int[] wrong = {-1, 16, Integer.MIN_VALUE, Integer.MAX_VALUE};
        for (int page : wrong) {
            DUE.answer("page(" + page + ")", x.page(page), SelfChange.OUTSIDE);
        }
    }
}
