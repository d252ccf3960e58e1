/** The edges of 'Terms' where MEMBERS are DROPPED, WALKED for good, ran BY, and looked at. */
public final class EdgesOfDropsTest implements Acts {
    private static final Due DUE = new Due("EdgesOfDropsTest");

    public static void main(String[] args) {
        droppedByEachCall();
        droppedInARunByBothStores();
        whatBecomesWhatItIsDropsNone();
        allThatHaveThePlace();
        droppedAtOnceWithinARun();
        droppedByACalledOne();
        stepOfTheOneCalledLast();
        droppedThreeTimes();
        backCountsAgain();
        forGoodGetsNone();
        forGoodByARun();
        forGoodOfTenAlone();
        looksInThePageAlone();
        looksOfAMemberInTwoPages();
        looksOfSeveralMembersAreOne();
        looksAsThatIsDone();
        looksOverTheEnd();
        looksOfRestoreAndUndo();
        looksInARunEachTime();
        noLooksWithoutAChange();
        DUE.end();
    }

    private static void gone(String by, SelfChange x, int dropped) {
        DUE.answer(by + ": DROPPED", dropped, 1);
        DUE.answer(by + ": member(0, 0)", x.member(0, 0), 0);
        DUE.answer(by + ": member(0, 3)", x.member(0, 3), 1);
        DUE.answer(by + ": count(6)", x.count(6), 1);
        DUE.answer(by + ": count(1)", x.count(1), 0);
    }

    /** "A byte that becomes another one (by put(), write(), restore(), undo(), in a RUN) DROPS". */
    private static void droppedByEachCall() {
        SelfChange put = Stories.made(255, SET, 9);
        gone("put()", put, put.put(250, 0x09L, 8));
        SelfChange write = Stories.made(255, SET, 9);
        gone("write()", write, write.write(0, 8));
        SelfChange restore = new SelfChange();
        restore.snapshot();
        restore.routine(255);
        Stories.bytes(restore, 255, SET, 9);
        restore.make();
        gone("restore()", restore, restore.restore(0));
        SelfChange undo = Stories.made(255, SET, 9);
        gone("undo()", undo, undo.undo());
        SelfChange run = Stories.made(255, SET, 9, STORE, 255);
        run.run(0, 0, 0, 400);
        gone("run()", run, run.ran(5));
    }

    /** By KIND 5 and by KIND 11. */
    private static void droppedInARunByBothStores() {
        SelfChange five = Stories.made(100, STORE, 102);
        five.run(0, 3, 0, 400);
        gone("STORE", five, five.ran(5));
        SelfChange eleven = Stories.made(100, STORE_AT_B);
        eleven.run(0, 3, -155, 400);
        gone("STORE AT B", eleven, eleven.ran(5));
    }

    private static SelfChange withTwoKept() {
        SelfChange x = Stories.made(255, SET, 9, STORE, 255, STORE_AT_B);
        x.snapshot();
        x.write(200, 1);
        return x;
    }

    /** "one that becomes what it is drops none". */
    private static void whatBecomesWhatItIsDropsNone() {
        SelfChange x = withTwoKept();
        DUE.answer("put()", x.put(255, 0x010905FF0BL, 5), 0);
        DUE.answer("write()", x.write(255, SET), 0);
        DUE.answer("restore()", x.restore(0), 0);
        DUE.answer("undo()", x.undo(), 0);
        DUE.answer("its MEMBER", x.member(0, 0), 1);
        SelfChange y = Stories.made(255, STORE, 255, STORE_AT_B);
        DUE.answer("run()", y.run(0, STORE + 256, 511, 400), 1);
        DUE.answer("DROPPED in it", y.ran(5), 0);
        DUE.answer("its MEMBER", y.member(0, 0), 1);
        DUE.answer("DROPPED", y.count(6), 0);
    }

    /** "DROPS all MEMBERS that have its place": and no others. */
    private static void allThatHaveThePlace() {
        SelfChange x = new SelfChange();
        for (int r = 0; r < 10; r++) {
            x.routine(100 + r);
            x.write(100 + r, SWAP);
        }
        x.make();
        DUE.answer("the place before all", x.write(99, 3), 0);
        DUE.answer("the place behind all", x.write(111, 3), 0);
        DUE.answer("a place of the first alone", x.write(100, TIMES), 1);
        DUE.answer("a place of the next five", x.write(105, TIMES), 5);
        DUE.answer("the last place of the others", x.write(110, TIMES), 4);
        DUE.answer("DROPPED", x.count(6), 10);
        DUE.answer("MEMBERS", x.count(1), 0);
    }

    /** "at once": the next STEP is WALKED, with the byte as it is now. */
    private static void droppedAtOnceWithinARun() {
        // STORE puts SWAP in place of the END behind it; then comes the END at 103.
        SelfChange x = Stories.made(100, STORE, 102, END, END);
        DUE.answer("run", x.run(0, SWAP, 7, 400), 1);
        DUE.answer("BY MEMBERS", x.ran(3), 1);
        DUE.answer("WALKED", x.ran(4), 2);
        DUE.answer("A", x.ran(0), 7);
        DUE.answer("place", x.ran(6), 103);
        // The last STEP drops it: nothing is WALKED.
        SelfChange last = Stories.made(100, STORE, 102, END);
        DUE.answer("run of one STEP", last.run(0, SWAP, 7, 1), -4);
        DUE.answer("BY MEMBERS", last.ran(3), 1);
        DUE.answer("WALKED", last.ran(4), 0);
        DUE.answer("DROPPED", last.ran(5), 1);
    }

    /** A byte of the caller that becomes another one in what it CALLED. */
    private static void droppedByACalledOne() {
        SelfChange x = Stories.with(100, CALL, 1, END);
        x.routine(50);
        Stories.bytes(x, 50, STORE, 102);
        x.make();
        DUE.answer("run", x.run(0, SWAP, 7, 400), 1);
        DUE.answer("BY MEMBERS: CALL, STORE, END", x.ran(3), 3);
        DUE.answer("WALKED: SWAP, END", x.ran(4), 2);
        DUE.answer("DROPPED", x.ran(5), 1);
        DUE.answer("the called one has its MEMBER", x.member(1, 0), 1);
    }

    /** "the ROUTINE that it is in (the one that was CALLED last and did not END)". */
    private static void stepOfTheOneCalledLast() {
        // 0 has a MEMBER and CALLS 1, which has none, and runs into 0's own place of END.
        SelfChange x = Stories.with(100, CALL, 1, END);
        x.routine(98);
        Stories.bytes(x, 98, GO, 2);
        DUE.answer("make()", x.make(), 2);
        x.write(98, 250);
        x.write(98, GO);
        DUE.answer("MEMBERS", x.count(1), 1);
        DUE.answer("run", x.run(0, 0, 0, 400), 1);
        DUE.answer("BY MEMBERS: CALL, the last END", x.ran(3), 2);
        DUE.answer("WALKED: GO and END, though 0 has that HEAD", x.ran(4), 2);
        x.make();
        DUE.answer("run with both", x.run(0, 0, 0, 400), 1);
        DUE.answer("BY MEMBERS", x.ran(3), 4);
    }

    /** "A ROUTINE whose MEMBERS were DROPPED three times .. is WALKED for good". */
    private static void droppedThreeTimes() {
        SelfChange x = new SelfChange();
        x.routine(100);
        for (int drops = 0; drops < 3; drops++) {
            DUE.answer("DROPPED", x.member(0, 3), drops);
            DUE.answer("for good", x.member(0, 4), 0);
            DUE.answer("ROUTINES for good", x.count(8), 0);
            DUE.answer("make()", x.make(), 1);
            x.write(100, drops + 10);
        }
        DUE.answer("DROPPED", x.member(0, 3), 3);
        DUE.answer("for good", x.member(0, 4), 1);
        DUE.answer("ROUTINES for good", x.count(8), 1);
        DUE.answer("it could be made", x.makeable(0), 1);
        DUE.answer("it is not", x.make(), 0);
        x.write(100, END);
        DUE.answer("no drop more", x.member(0, 3), 3);
    }

    /** "(those that came BACK count again)". */
    private static void backCountsAgain() {
        SelfChange x = new SelfChange();
        x.routine(100);
        x.make();
        for (int drops = 1; drops <= 3; drops++) {
            DUE.answer("write()", x.write(100, SWAP), 1);
            DUE.answer("DROPPED", x.member(0, 3), drops);
            DUE.answer("for good", x.member(0, 4), drops == 3 ? 1 : 0);
            DUE.answer("undo()", x.undo(), drops == 3 ? 0 : 100);
        }
        DUE.answer("MEMBERS made", x.count(5), 1);
        DUE.answer("DROPPED in all", x.count(6), 3);
        DUE.answer("BACK in all", x.count(7), 2);
    }

    /** "it gets no MEMBER any more": by make(), restore() or undo(); and is WALKED. */
    private static void forGoodGetsNone() {
        SelfChange x = new SelfChange();
        x.routine(100);
        x.make();
        x.write(100, SWAP);
        x.make();
        x.write(100, END);
        x.make();
        x.snapshot();
        x.write(100, SWAP);
        DUE.answer("for good", x.member(0, 4), 1);
        DUE.answer("make()", x.make(), 0);
        DUE.answer("restore()", x.restore(0), 0);
        DUE.answer("undo()", x.undo(), 0);
        DUE.answer("its bytes are as they were", x.read(100), END);
        DUE.answer("member(0, 0)", x.member(0, 0), 0);
        DUE.answer("one lies ASIDE", x.member(0, 5), 1);
        DUE.answer("run", x.run(0, 0, 0, 400), 1);
        DUE.answer("it is WALKED", x.ran(4), 1);
    }

    private static void forGoodByARun() {
        SelfChange x = Stories.with(100, STORE, 103, END);
        x.routine(103);
        for (int drops = 1; drops <= 3; drops++) {
            x.make();
            DUE.answer("run", x.run(0, drops + 9, 0, 400), 1);
            DUE.answer("DROPPED in it", x.ran(5), 1);
        }
        DUE.answer("the other is for good", x.member(1, 4), 1);
        DUE.answer("itself is not", x.member(0, 4), 0);
    }

    private static void forGoodOfTenAlone() {
        SelfChange x = Stories.manyAt(100, 9);
        x.routine(50);
        x.make();
        Stories.dropForGood(x, 100);
        DUE.answer("ROUTINES for good", x.count(8), 9);
        DUE.answer("member(9, 4)", x.member(9, 4), 0);
        Stories.dropForGood(x, 50);
        DUE.answer("ROUTINES for good", x.count(8), 10);
        DUE.answer("DROPPED in all", x.count(6), 30);
        DUE.answer("MEMBERS made", x.count(5), 30);
        DUE.answer("make()", x.make(), 0);
    }

    private static int looksOf(SelfChange x, int place) {
        int before = x.count(4);
        x.write(place, 99);
        return x.count(4) - before;
    }

    /** "LOOKS: bytes that became others and lay in a PAGE that has some place of some MEMBER". */
    private static void looksInThePageAlone() {
        for (int page = 0; page < 16; page++) {
            SelfChange x = Stories.made(16 * page + 7);
            DUE.answer("the page's first place", looksOf(x, 16 * page), 1);
            DUE.answer("the page's last place", looksOf(x, 16 * page + 15), 1);
            DUE.answer("the place before the page", looksOf(x, (16 * page + 255) % 256), 0);
            DUE.answer("the place behind the page", looksOf(x, (16 * page + 16) % 256), 0);
            DUE.answer("its own place", looksOf(x, 16 * page + 7), 1);
            DUE.answer("the page without it", looksOf(x, 16 * page + 8), 0);
        }
    }

    private static void looksOfAMemberInTwoPages() {
        SelfChange x = Stories.made(255, GO, 254);
        DUE.answer("the last page", looksOf(x, 240), 1);
        DUE.answer("the first page", looksOf(x, 15), 1);
        DUE.answer("its second byte", looksOf(x, 0), 1);
        DUE.answer("the last page without it", looksOf(x, 241), 0);
        DUE.answer("the first page without it", looksOf(x, 14), 0);
    }

    /** "(each time one)". */
    private static void looksOfSeveralMembersAreOne() {
        SelfChange x = Stories.manyAt(100, 9);
        x.routine(101);
        x.make();
        DUE.answer("a byte beside ten", looksOf(x, 96), 1);
        DUE.answer("a byte that drops nine", looksOf(x, 100), 1);
        DUE.answer("a byte that drops the last", looksOf(x, 101), 1);
        DUE.answer("a byte beside none", looksOf(x, 97), 0);
    }

    /** "as that is done": the byte that drops it is looked at, those behind it in the same put() not. */
    private static void looksAsThatIsDone() {
        for (int at = 0; at < 8; at++) {
            SelfChange x = Stories.made(96 + at);
            x.put(96, -1L, 8);
            DUE.answer("LOOKS of a put(), its byte " + at + " drops", x.count(4), at + 1);
        }
    }

    private static void looksOverTheEnd() {
        SelfChange x = Stories.made(255);
        x.put(252, -1L, 8);
        DUE.answer("252 to 255, and none of 0 to 3", x.count(4), 4);
        SelfChange y = Stories.made(0);
        y.put(252, -1L, 8);
        DUE.answer("0 alone", y.count(4), 1);
        SelfChange z = Stories.made(7);
        z.put(252, -1L, 8);
        DUE.answer("0 to 3", z.count(4), 4);
    }

    /** By rising places; a MEMBER that is BACK when that is done was not there for its bytes. */
    private static void looksOfRestoreAndUndo() {
        SelfChange x = new SelfChange();
        x.routine(100);
        x.put(96, -1L, 8);
        x.write(100, END);
        x.snapshot();
        x.put(96, 0L, 8);
        x.make();
        DUE.answer("restore(0)", x.restore(0), 0);
        DUE.answer("its page, but its own place", x.count(4), 7);
        DUE.answer("undo()", x.undo(), 0);
        DUE.answer("none became another one", x.count(4), 7);
        DUE.answer("undo()", x.undo(), 1);
        DUE.answer("100 dropped it", x.count(4), 8);
        DUE.answer("undo()", x.undo(), 100);
        DUE.answer("BACK when all eight bytes are done", x.count(4), 8);
        DUE.answer("restore(0)", x.restore(0), 0);
        DUE.answer("its page again", x.count(4), 15);
        DUE.answer("one byte more", looksOf(x, 96), 1);
    }

    private static void looksInARunEachTime() {
        SelfChange x = Stories.with(100, STORE, 48, GROW, 1, GO, 250);
        x.routine(50);
        x.make();
        DUE.answer("run", x.run(0, 1, 0, 9), -4);
        DUE.answer("bytes that became others", x.ran(8), 3);
        DUE.answer("LOOKS: the same place three times", x.count(4), 3);
        DUE.answer("alike()", x.alike(0, 9, 0, 9), 1);
        DUE.answer("it looks not", x.count(4), 3);
    }

    private static void noLooksWithoutAChange() {
        SelfChange x = Stories.made(100, SWAP);
        x.snapshot();
        x.write(100, SWAP);
        x.put(96, 0x0000000003000000L, 8);
        x.restore(0);
        x.write(-1, 9);
        x.write(100, 256);
        x.put(96, -1L, 9);
        DUE.answer("LOOKS", x.count(4), 0);
    }
}
