/** The edges of promises 17 to 19, and of the 512 calls that an object is used for. */
public final class EdgesOfCountsTest implements Acts {
    private static final Due DUE = new Due("EdgesOfCountsTest");

    public static void main(String[] args) {
        shareWithoutWalked();
        shareIsCut();
        shareOfAllRuns();
        countsOfNone();
        countRoutinesAndSnapshots();
        countMembersFirstToLast();
        countKept();
        countInAll();
        countForGood();
        clearNoneToTen();
        clearIsAsAtTheBeginning();
        clearAndAllAgain();
        clearOfWhatIsFull();
        clearForgetsMembers();
        clearForgetsWhatLiesAside();
        lastOfSoManyCalls();
        DUE.end();
    }

    /** share: "ArithmeticException: none were WALKED". */
    private static void shareWithoutWalked() {
        SelfChange x = Stories.with(100, FIRST_NONE);
        DUE.exception("share() of no run", ArithmeticException.class, x::share);
        x.run(0, 0, 0, 1);
        DUE.exception("share() of NONE at once", ArithmeticException.class, x::share);
        x.write(100, END);
        x.make();
        x.run(0, 0, 0, 1);
        DUE.exception("share() of one BY A MEMBER", ArithmeticException.class, x::share);
        x.alike(0, 0, 0, 1);
        DUE.exception("share() behind alike()", ArithmeticException.class, x::share);
        x.write(100, SWAP);
        x.run(0, 0, 0, 1);
        DUE.answer("share() of one and one", x.share(), 1);
    }

    /** share: "STEPS BY MEMBERS in all by STEPS WALKED, cut". */
    private static void shareIsCut() {
        for (int members = 0; members <= 7; members++) {
            for (int walked = 1; walked <= 4; walked++) {
                SelfChange x = Stories.with(100, GO, 254);
                x.routine(50);
                x.put(50, 0x06FEL, 2);
                x.make();
                x.write(51, 0);
                x.write(51, 254);
                if (members > 0) {
                    x.run(0, 0, 0, members);
                }
                x.run(1, 0, 0, walked);
                DUE.answer(members + " by " + walked, x.share(), members / walked);
            }
        }
    }

    /** "in all": the runs of all kinds together, with FAULTS too. */
    private static void shareOfAllRuns() {
        SelfChange x = Stories.with(100, GO, 254);
        x.run(0, 0, 0, 1);
        DUE.answer("none by one", x.share(), 0);
        x.make();
        x.run(0, 0, 0, 400);
        DUE.answer("400 by one", x.share(), 400);
        x.run(0, 0, 0, 400);
        DUE.answer("800 by one", x.share(), 800);
        x.run(0, 0, 0, 401);
        x.run(1, 0, 0, 400);
        DUE.answer("a refused one is none", x.share(), 800);
        x.write(101, 253);
        x.run(0, 0, 0, 2);
        DUE.answer("800 by three", x.share(), 266);
    }

    private static void countsOfNone() {
        SelfChange x = new SelfChange();
        for (int what = 0; what < 9; what++) {
            DUE.answer("count(" + what + ")", x.count(what), 0);
        }
        DUE.answer("count(-1)", x.count(-1), -2);
        DUE.answer("count(9)", x.count(9), -2);
    }

    /** count: "0 ROUTINES", "2 SNAPSHOTS", up to FULL. */
    private static void countRoutinesAndSnapshots() {
        SelfChange x = new SelfChange();
        for (int i = 1; i <= 12; i++) {
            x.routine(9);
            x.snapshot();
            DUE.answer("ROUTINES", x.count(0), Math.min(i, 10));
            DUE.answer("SNAPSHOTS", x.count(2), Math.min(i, 4));
        }
    }

    /** count: "1 MEMBERS", of the first and of the last ROUTINE. */
    private static void countMembersFirstToLast() {
        SelfChange x = new SelfChange();
        for (int r = 0; r < 10; r++) {
            x.routine(20 * r);
        }
        x.make();
        DUE.answer("ten", x.count(1), 10);
        x.write(0, SWAP);
        DUE.answer("without the first", x.count(1), 9);
        x.write(180, SWAP);
        DUE.answer("without the last", x.count(1), 8);
        x.undo();
        DUE.answer("the last is BACK", x.count(1), 9);
        DUE.answer("member(9, 0)", x.member(9, 0), 1);
        DUE.answer("member(0, 0)", x.member(0, 0), 0);
    }

    /** count: "3 KEPT ones". */
    private static void countKept() {
        SelfChange x = new SelfChange();
        for (int i = 1; i <= 10; i++) {
            x.write(9, i);
            DUE.answer("KEPT", x.count(3), Math.min(i, 8));
        }
        for (int i = 7; i >= 0; i--) {
            x.undo();
            DUE.answer("KEPT", x.count(3), i);
        }
        x.undo();
        DUE.answer("none", x.count(3), 0);
    }

    /** count: "5 MEMBERS made in all, 6 DROPPED in all, 7 BACK in all": BACK is not made. */
    private static void countInAll() {
        SelfChange x = Stories.manyAt(100, 10);
        x.make();
        x.write(100, SWAP);
        x.undo();
        int[] want = {10, 10, 10};
        for (int i = 0; i < 3; i++) {
            DUE.answer("count(" + (5 + i) + ")", x.count(5 + i), want[i]);
        }
        x.write(100, SWAP);
        x.make();
        x.undo();
        int[] more = {20, 30, 10};
        for (int i = 0; i < 3; i++) {
            DUE.answer("count(" + (5 + i) + ") then", x.count(5 + i), more[i]);
        }
        DUE.answer("MEMBERS", x.count(1), 0);
    }

    /** count: "8 ROUTINES WALKED for good": those with three drops, of the first and the last. */
    private static void countForGood() {
        SelfChange x = new SelfChange();
        for (int r = 0; r < 10; r++) {
            x.routine(20 * r);
        }
        x.make();
        for (int r = 0; r < 10; r++) {
            DUE.answer("for good", x.count(8), r);
            Stories.dropForGood(x, 20 * r);
        }
        DUE.answer("all ten", x.count(8), 10);
    }

    /** clear: "how many ROUTINES there were". */
    private static void clearNoneToTen() {
        SelfChange x = new SelfChange();
        for (int n = 0; n <= 10; n++) {
            for (int r = 0; r < n; r++) {
                DUE.answer("routine()", x.routine(r), r);
            }
            DUE.answer("clear() of " + n, x.clear(), n);
            DUE.answer("ROUTINES", x.count(0), 0);
            DUE.answer("clear() again", x.clear(), 0);
        }
    }

    private static SelfChange cleared(SelfChange x) {
        x.clear();
        return x;
    }

    /** clear: "All is as at the beginning", from empty, rich and full. */
    private static void clearIsAsAtTheBeginning() {
        String beginning = Whole.of(SelfChange::new);
        DUE.same("clear() of none", Whole.of(() -> cleared(new SelfChange())), beginning);
        DUE.same("clear() of the rich one", Whole.of(() -> cleared(Stories.rich())), beginning);
        DUE.same("clear() of the full one", Whole.of(() -> cleared(Stories.full())), beginning);
    }

    /** What is done behind a clear() comes to the same as on a new object. */
    private static void clearAndAllAgain() {
        DUE.same("rich behind full", Whole.of(() -> Stories.rich(cleared(Stories.full()))), Whole.of(Stories::rich));
        DUE.same("full behind full", Whole.of(() -> Stories.full(cleared(Stories.full()))), Whole.of(Stories::full));
    }

    private static void clearOfWhatIsFull() {
        SelfChange x = Stories.full();
        DUE.answer("routine()", x.routine(0), -4);
        DUE.answer("snapshot()", x.snapshot(), -4);
        DUE.answer("clear()", x.clear(), 10);
        DUE.answer("undo()", x.undo(), -3);
        DUE.answer("restore(0)", x.restore(0), -1);
        DUE.answer("member(0, 0)", x.member(0, 0), -1);
        DUE.exception("share()", ArithmeticException.class, x::share);
        DUE.answer("routine()", x.routine(255), 0);
        DUE.answer("snapshot()", x.snapshot(), 0);
        DUE.answer("its place", x.member(0, 6), 255);
        DUE.answer("not for good", x.member(0, 4), 0);
        DUE.answer("none ASIDE", x.member(0, 5), 0);
    }

    /** The places of MEMBERS that were before clear() are no places of those behind it. */
    private static void clearForgetsMembers() {
        SelfChange x = Stories.manyAt(255, 10);
        Stories.bytes(x, 255, SET, 9);
        x.make();
        x.clear();
        for (int r = 0; r < 10; r++) {
            x.routine(100);
        }
        DUE.answer("MEMBERS", x.count(1), 0);
        DUE.answer("make()", x.make(), 10);
        DUE.answer("page(0)", x.page(0), 0);
        DUE.answer("page(15)", x.page(15), 0);
        DUE.answer("put() where they were", x.put(254, -1L, 4), 0);
        DUE.answer("LOOKS", x.count(4), 0);
        DUE.answer("MEMBERS", x.count(1), 10);
    }

    private static void clearForgetsWhatLiesAside() {
        SelfChange x = Stories.manyAt(100, 10);
        x.make();
        x.write(100, SWAP);
        DUE.answer("one lies ASIDE", x.member(9, 5), 1);
        x.clear();
        for (int r = 0; r < 10; r++) {
            x.routine(100);
            DUE.answer("member(" + r + ", 5)", x.member(r, 5), 0);
            DUE.answer("member(" + r + ", 3)", x.member(r, 3), 0);
        }
        x.write(9, 9);
        DUE.answer("undo() brings none BACK", x.undo(), 0);
        x.snapshot();
        DUE.answer("restore() brings none BACK", x.restore(0), 0);
    }

    /** "An object is used for at most 512 calls": the last of them answers as due. */
    private static void lastOfSoManyCalls() {
        SelfChange x = new SelfChange();
        x.routine(100);
        x.put(100, 0x06FEL, 2);
        x.run(0, 0, 0, 1);
        x.make();
        for (int i = 5; i < 512; i++) {
            DUE.answer("run", x.run(0, 0, 0, 400), -4);
        }
        DUE.answer("call 512", x.share(), 400 * 507);
        SelfChange y = new SelfChange();
        for (int i = 1; i < 511; i++) {
            y.put(0, i * 0x0101010101010101L, 8);
        }
        DUE.answer("undo() as call 511", y.undo(), 0);
        DUE.answer("read() as call 512", y.read(7), 509 & 255);
    }
}
