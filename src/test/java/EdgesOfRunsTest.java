/** The edges of 'Terms', A RUN and its FAULTS, and of promises 10 to 12. */
public final class EdgesOfRunsTest implements Acts {
    private static final Due DUE = new Due("EdgesOfRunsTest");

    public static void main(String[] args) {
        eachActIsAStep();
        endBehindTheCall();
        endBehindACallOverTheEnd();
        endWithoutACall();
        noneIsNoStep();
        noneByAMember();
        callOfOneThatThereIsNot();
        callOfTheLastOne();
        sixWithinOneAnother();
        sixAgainBehindAnEnd();
        deepAheadOfRoutine();
        faultsAsTheLastStep();
        spentAndOver();
        spentAheadOfWhatWouldBeNext();
        stepsFromOneToMost();
        whatWasDoneStays();
        ranBeforeAny();
        ranOfTheLatestNotRefused();
        ranStepsByMembersAndWalked();
        ranDroppedNoneToTen();
        ranPlaceOfEachEnd();
        ranMostWithin();
        ranBytesThatBecameOthers();
        alikeOfEachAnswer();
        alikeOfOneThatDropsItself();
        alikeChangesNothing();
        alikeFirstAndLastSteps();
        DUE.end();
    }

    /** Routine r begins at 16 times r, with a CALL of the next; so many of them. */
    private static SelfChange chain(int routines) {
        SelfChange x = new SelfChange();
        for (int r = 0; r < routines; r++) {
            x.routine(16 * r);
            Stories.bytes(x, 16 * r, CALL, r + 1);
        }
        return x;
    }

    /** "ACT by ACT, each a STEP": 1 STEP of END alone, up to 24 in a line. */
    private static void eachActIsAStep() {
        for (int acts = 0; acts < 24; acts++) {
            SelfChange x = new SelfChange();
            x.routine(16);
            for (int i = 0; i < acts; i++) {
                x.write(16 + i, SWAP);
            }
            DUE.answer("run of " + acts, x.run(0, 1, 2, 400), 1);
            DUE.answer("STEPS", x.ran(2), acts + 1);
            DUE.answer("A", x.ran(0), acts % 2 == 0 ? 1 : 2);
        }
    }

    /** "END: behind the CALL that began this ROUTINE": of six, each behind its own. */
    private static void endBehindTheCall() {
        SelfChange x = chain(5);
        x.routine(80);
        for (int r = 0; r < 6; r++) {
            Stories.bytes(x, 16 * r + 2, GROW, 1);
        }
        x.write(80, GROW);
        x.write(81, 100);
        DUE.answer("run of six within", x.run(0, 0, 0, 400), 1);
        DUE.answer("A", x.ran(0), 106);
        DUE.answer("STEPS: 5 CALLS, 7 GROW, 6 END", x.ran(2), 18);
        DUE.answer("the last END", x.ran(6), 4);
    }

    private static void endBehindACallOverTheEnd() {
        int[] places = {253, 254, 255};
        for (int place : places) {
            SelfChange x = Stories.with(place, CALL, 1, SET, 9);
            x.routine(100);
            DUE.answer("CALL at " + place, x.run(0, 0, 0, 400), 1);
            DUE.answer("A behind it", x.ran(0), 9);
            DUE.answer("its END", x.ran(6), (place + 4) % 256);
        }
    }

    /** "without one the RUN is over": the CALLS that ENDED count no more. */
    private static void endWithoutACall() {
        SelfChange x = Stories.with(16, CALL, 1, CALL, 1);
        x.routine(100);
        DUE.answer("run", x.run(0, 0, 0, 400), 1);
        DUE.answer("STEPS", x.ran(2), 5);
        DUE.answer("the last END", x.ran(6), 20);
        DUE.answer("run of the other", x.run(1, 0, 0, 400), 1);
        DUE.answer("STEPS", x.ran(2), 1);
        DUE.answer("the last END", x.ran(6), 100);
    }

    /** "1 NONE: a KIND that is none (it is no STEP)": at once, behind a STEP, within a CALL. */
    private static void noneIsNoStep() {
        int[] none = {FIRST_NONE, LAST_NONE};
        for (int kind : none) {
            SelfChange x = Stories.with(255, kind);
            DUE.answer("NONE at once", x.run(0, 5, 6, 400), -1);
            DUE.answer("STEPS", x.ran(2) + x.ran(3) + x.ran(4), 0);
            DUE.answer("place", x.ran(6), 255);
            DUE.answer("A", x.ran(0), 5);
            DUE.answer("B", x.ran(1), 6);
            SelfChange y = Stories.with(254, CALL, 1);
            y.routine(100);
            Stories.bytes(y, 100, SWAP, kind);
            DUE.answer("NONE within a CALL", y.run(0, 5, 6, 400), -1);
            DUE.answer("STEPS", y.ran(2), 2);
            DUE.answer("place", y.ran(6), 101);
            DUE.answer("within", y.ran(7), 2);
        }
    }

    /** A MEMBER has no KIND that is none: NONE comes only where it was DROPPED before. */
    private static void noneByAMember() {
        SelfChange x = Stories.made(16, SET, 13, STORE, 20, END);
        DUE.answer("NONE behind its own STORE", x.run(0, 0, 0, 400), -1);
        DUE.answer("BY MEMBERS", x.ran(3), 2);
        DUE.answer("WALKED", x.ran(4), 0);
        DUE.answer("place", x.ran(6), 20);
    }

    /** "2 ROUTINE: a CALL of one that there is not": the first one behind the last, and 255. */
    private static void callOfOneThatThereIsNot() {
        for (int routines = 1; routines <= 10; routines++) {
            int[] none = {routines, 10, 127, 128, 255};
            for (int n : none) {
                SelfChange x = Stories.manyAt(100, routines);
                Stories.bytes(x, 100, SWAP, CALL, n);
                DUE.answer("CALL of " + n + " with " + routines, x.run(0, 5, 6, 400), -2);
                DUE.answer("it is a STEP", x.ran(2), 2);
                DUE.answer("place", x.ran(6), 101);
                DUE.answer("within", x.ran(7), 1);
                x.make();
                DUE.answer("by a member", x.run(0, 5, 6, 400), -2);
                DUE.answer("it is a STEP BY A MEMBER", x.ran(3), 2);
            }
        }
    }

    private static void callOfTheLastOne() {
        for (int routines = 2; routines <= 10; routines++) {
            SelfChange x = new SelfChange();
            x.routine(200);
            for (int r = 1; r < routines; r++) {
                x.routine(16 * r);
            }
            Stories.bytes(x, 200, CALL, routines - 1);
            DUE.answer("CALL of the last of " + routines, x.run(0, 0, 0, 400), 1);
        }
    }

    /** "3 DEEP: a CALL with six ROUTINES within one another". */
    private static void sixWithinOneAnother() {
        for (int within = 1; within <= 7; within++) {
            SelfChange x = chain(within);
            x.write(16 * (within - 1), END);
            DUE.answer(within + " within one another", x.run(0, 0, 0, 400), within <= 6 ? 1 : -3);
            DUE.answer("STEPS", x.ran(2), within <= 6 ? 2 * within - 1 : 6);
            DUE.answer("the most within", x.ran(7), Math.min(within, 6));
            DUE.answer("place", x.ran(6), within <= 6 ? within == 1 ? 0 : 2 : 80);
        }
    }

    /** With six within, an END makes room for one CALL more. */
    private static void sixAgainBehindAnEnd() {
        SelfChange x = chain(5);
        x.routine(80);
        Stories.bytes(x, 66, CALL, 5);
        DUE.answer("two CALLS of the sixth", x.run(0, 0, 0, 400), 1);
        DUE.answer("the most within", x.ran(7), 6);
        DUE.answer("STEPS", x.ran(2), 13);
    }

    /** "(2 and 3 are STEPS; 3 ahead of 2.)" */
    private static void deepAheadOfRoutine() {
        SelfChange six = chain(6);
        DUE.answer("six within, a CALL of none", six.run(0, 0, 0, 400), -3);
        DUE.answer("it is a STEP", six.ran(2), 6);
        DUE.answer("place", six.ran(6), 80);
        SelfChange five = chain(5);
        DUE.answer("five within, a CALL of none", five.run(0, 0, 0, 400), -2);
        DUE.answer("it is a STEP", five.ran(2), 5);
        DUE.answer("place", five.ran(6), 64);
        DUE.answer("within", five.ran(7), 5);
    }

    /** As the last STEP that was told, FAULTS 2 and 3 come, not SPENT. */
    private static void faultsAsTheLastStep() {
        SelfChange six = chain(6);
        DUE.answer("DEEP as STEP 6 of 6", six.run(0, 0, 0, 6), -3);
        DUE.answer("SPENT with 5", six.run(0, 0, 0, 5), -4);
        DUE.answer("place", six.ran(6), 80);
        DUE.answer("within", six.ran(7), 6);
        SelfChange one = chain(1);
        DUE.answer("ROUTINE as STEP 1 of 1", one.run(0, 0, 0, 1), -2);
    }

    /** "4 SPENT: as many STEPS as told, and it is not over." */
    private static void spentAndOver() {
        for (int acts = 0; acts < 24; acts++) {
            SelfChange x = new SelfChange();
            x.routine(240);
            for (int i = 0; i < acts; i++) {
                x.write((240 + i) % 256, SWAP);
            }
            DUE.answer("over with the last STEP", x.run(0, 0, 0, acts + 1), 1);
            DUE.answer("its END", x.ran(6), (240 + acts) % 256);
            if (acts > 0) {
                DUE.answer("one STEP less", x.run(0, 0, 0, acts), -4);
                DUE.answer("STEPS", x.ran(2), acts);
                DUE.answer("would be next", x.ran(6), (240 + acts) % 256);
            }
        }
    }

    private static void spentAheadOfWhatWouldBeNext() {
        SelfChange x = Stories.with(16, SWAP, FIRST_NONE);
        DUE.answer("a NONE would be next", x.run(0, 0, 0, 1), -4);
        DUE.answer("place", x.ran(6), 17);
        DUE.answer("a NONE is next", x.run(0, 0, 0, 2), -1);
        DUE.answer("place", x.ran(6), 17);
        SelfChange y = Stories.with(16, SWAP, CALL, 9);
        DUE.answer("a ROUTINE would be next", y.run(0, 0, 0, 1), -4);
        DUE.answer("a ROUTINE is next", y.run(0, 0, 0, 2), -2);
    }

    /** "so many STEPS at most (1 .. 400)". */
    private static void stepsFromOneToMost() {
        int[] steps = {1, 2, 399, 400};
        for (int n : steps) {
            SelfChange x = Stories.with(16, GO, 254);
            DUE.answer("run of " + n, x.run(0, 0, 0, n), -4);
            DUE.answer("STEPS", x.ran(2), n);
        }
        SelfChange x = Stories.with(16, GO_IF_LEFT, 254);
        DUE.answer("399 and END", x.run(0, 0, 399, 400), 1);
        DUE.answer("STEPS", x.ran(2), 400);
        DUE.answer("400 and END", x.run(0, 0, 400, 400), -4);
        DUE.answer("STEPS", x.ran(2), 400);
        DUE.answer("would be next", x.ran(6), 18);
    }

    private static void stays(String what, SelfChange x, int steps, int answer) {
        DUE.answer(what, x.run(0, 7, 8, steps), answer);
        DUE.answer(what + ": the byte stays", x.read(200), 7);
        DUE.answer(what + ": A", x.ran(0), 8);
        DUE.answer(what + ": B", x.ran(1), 7);
        DUE.answer(what + ": bytes that became others", x.ran(8), 1);
    }

    /** "or minus the FAULT (what was done stays)". */
    private static void whatWasDoneStays() {
        stays("over", Stories.with(16, STORE, 200, SWAP, END), 400, 1);
        stays("NONE", Stories.with(16, STORE, 200, SWAP, FIRST_NONE), 400, -1);
        stays("ROUTINE", Stories.with(16, STORE, 200, SWAP, CALL, 1), 400, -2);
        stays("SPENT", Stories.with(16, STORE, 200, SWAP, END), 2, -4);
        SelfChange deep = Stories.with(16, STORE, 200, SWAP, CALL, 1);
        deep.routine(100);
        Stories.bytes(deep, 100, CALL, 1);
        stays("DEEP", deep, 400, -3);
    }

    /** ran: "0 before any". */
    private static void ranBeforeAny() {
        SelfChange x = Stories.made(16, SET, 9);
        x.alike(0, 1, 2, 3);
        x.run(1, 1, 2, 3);
        x.run(0, 1, 2, 0);
        x.run(0, 1, 2, 401);
        for (int what = 0; what < 9; what++) {
            DUE.answer("ran(" + what + ") before any", x.ran(what), 0);
        }
    }

    /** ran: "Of the latest run() that was not refused". */
    private static void ranOfTheLatestNotRefused() {
        SelfChange x = Stories.made(16, SET, 9, STORE, 200, STORE, 20, END);
        x.run(0, 1, 2, 400);
        x.run(1, 5, 6, 7);
        x.run(0, 5, 6, 401);
        x.alike(0, 5, 6, 7);
        // The STORE at 20 changes its own KIND, and so drops the member: the END behind it is WALKED.
        int[] want = {9, 2, 4, 3, 1, 1, 22, 1, 2};
        for (int what = 0; what < 9; what++) {
            DUE.answer("ran(" + what + ")", x.ran(what), want[what]);
        }
        x.write(16, END);
        x.run(0, 3, 4, 1);
        int[] next = {3, 4, 1, 0, 1, 0, 16, 1, 0};
        for (int what = 0; what < 9; what++) {
            DUE.answer("ran(" + what + ") of the next", x.ran(what), next[what]);
        }
    }

    /** ran: "2 STEPS, 3 those BY MEMBERS, 4 those WALKED": none, all, and both. */
    private static void ranStepsByMembersAndWalked() {
        SelfChange x = Stories.with(16, GO, 254);
        x.run(0, 0, 0, 400);
        DUE.answer("all WALKED", x.ran(4), 400);
        DUE.answer("none BY MEMBERS", x.ran(3), 0);
        x.make();
        x.run(0, 0, 0, 400);
        DUE.answer("none WALKED", x.ran(4), 0);
        DUE.answer("all BY MEMBERS", x.ran(3), 400);
        // SET 3, then STORE in its own END drops the member: that STEP is done BY it still.
        SelfChange y = Stories.made(16, SET, 3, STORE, 20, END);
        y.run(0, 0, 0, 400);
        DUE.answer("BY MEMBERS till the drop", y.ran(3), 2);
        DUE.answer("WALKED at once behind it", y.ran(4), 2);
        DUE.answer("STEPS", y.ran(2), 4);
    }

    /** ran: "5 MEMBERS DROPPED in it". */
    private static void ranDroppedNoneToTen() {
        for (int n = 1; n <= 10; n++) {
            SelfChange x = Stories.manyAt(16, n);
            Stories.bytes(x, 16, STORE, 18);
            x.make();
            x.run(0, 0, 0, 400);
            DUE.answer("DROPPED by a byte that becomes what it is", x.ran(5), 0);
            x.run(0, 3, 0, 400);
            DUE.answer("DROPPED of " + n, x.ran(5), n);
            x.run(0, 0, 0, 400);
            DUE.answer("DROPPED behind that", x.ran(5), 0);
        }
    }

    /** ran: "6 the place where it ended (of the ACT at which a FAULT came, or would be next; of the last END)". */
    private static void ranPlaceOfEachEnd() {
        int[] places = {0, 100, 254, 255};
        for (int place : places) {
            int behind = (place + 1) % 256;
            SelfChange x = Stories.with(place, SWAP, END);
            DUE.answer("over", x.run(0, 0, 0, 400), 1);
            DUE.answer("of the last END", x.ran(6), behind);
            DUE.answer("SPENT", x.run(0, 0, 0, 1), -4);
            DUE.answer("would be next", x.ran(6), behind);
            x.write(behind, FIRST_NONE);
            DUE.answer("NONE", x.run(0, 0, 0, 400), -1);
            DUE.answer("of NONE", x.ran(6), behind);
            Stories.bytes(x, behind, CALL, 1);
            DUE.answer("ROUTINE", x.run(0, 0, 0, 400), -2);
            DUE.answer("of ROUTINE", x.ran(6), behind);
            x.write((behind + 1) % 256, 0);
            DUE.answer("DEEP", x.run(0, 0, 0, 400), -3);
            DUE.answer("of DEEP", x.ran(6), behind);
        }
    }

    /** ran: "7 the most ROUTINES within one another": not as many as at the end, or as CALLS. */
    private static void ranMostWithin() {
        SelfChange x = Stories.with(200, CALL, 1, CALL, 3, CALL, 3);
        x.routine(16);
        x.routine(32);
        x.routine(48);
        Stories.bytes(x, 16, CALL, 2);
        DUE.answer("run", x.run(0, 0, 0, 400), 1);
        DUE.answer("three within, four CALLS", x.ran(7), 3);
        DUE.answer("run of one", x.run(3, 0, 0, 400), 1);
        DUE.answer("one within", x.ran(7), 1);
        DUE.answer("SPENT behind a CALL", x.run(1, 0, 0, 1), -4);
        DUE.answer("two within", x.ran(7), 2);
    }

    /** ran: "8 bytes that became others": each time, not each place; by 5 and by 11. */
    private static void ranBytesThatBecameOthers() {
        SelfChange x = Stories.with(16, GROW, 1, STORE, 200, STORE_AT_B, GO, 249);
        DUE.answer("run", x.run(0, 0, 201, 400), -4);
        DUE.answer("two in each four STEPS", x.ran(8), 200);
        DUE.answer("none in one STEP", x.run(0, 0, 201, 1), -4);
        DUE.answer("bytes", x.ran(8), 0);
        x.run(0, 99, 201, 3);
        x.run(0, 99, 201, 3);
        DUE.answer("what becomes what it is", x.ran(8), 0);
    }

    private static void alikeAndMade(String what, SelfChange x) {
        DUE.answer("alike, " + what, x.alike(0, 3, 4, 400), 1);
        x.make();
        DUE.answer("alike with members, " + what, x.alike(0, 3, 4, 400), 1);
        DUE.answer("alike of one STEP, " + what, x.alike(0, 3, 4, 1), 1);
    }

    /** alike: "would come to the same answer, A, B, STEPS, place and MEMORY", whatever the answer is. */
    private static void alikeOfEachAnswer() {
        alikeAndMade("over", Stories.with(255, SWAP, END));
        alikeAndMade("NONE", Stories.with(255, SWAP, FIRST_NONE));
        alikeAndMade("ROUTINE", Stories.with(255, SWAP, CALL, 1));
        alikeAndMade("DEEP", Stories.with(255, SWAP, CALL, 0));
        alikeAndMade("SPENT", Stories.with(255, SWAP, GO, 253));
        alikeAndMade("a loop of bytes", Stories.with(255, LOAD, 200, GROW, 1, STORE, 200, GO, 248));
    }

    /** A byte that becomes another one counts at once, in the run with MEMBERS, too. */
    private static void alikeOfOneThatDropsItself() {
        SelfChange x = Stories.made(16, SET, 3, STORE, 20, GROW, 1);
        for (int steps = 1; steps <= 10; steps++) {
            DUE.answer("alike of " + steps, x.alike(0, 7, 8, steps), 1);
        }
        DUE.answer("its MEMBER", x.member(0, 0), 1);
    }

    /** alike: "nothing changes", with all that a run would change. */
    private static void alikeChangesNothing() {
        DUE.same("behind alike()", Whole.of(() -> {
            SelfChange x = Stories.rich();
            for (int r = 0; r < 6; r++) {
                x.alike(r, 77, 200, 400);
                x.alike(r, 77, 200, 1);
            }
            x.alike(5, 77, 200, 2);
            return x;
        }), Whole.of(Stories::rich));
        SelfChange x = Stories.made(16, SET, 3, STORE, 16, STORE, 200, END);
        DUE.answer("alike of one that drops itself", x.alike(0, 0, 0, 400), 1);
        DUE.answer("its MEMBER", x.member(0, 0), 1);
        DUE.answer("DROPPED", x.count(6), 0);
        DUE.answer("LOOKS", x.count(4), 0);
        DUE.answer("the byte", x.read(200), 0);
        DUE.exception("no STEPS", ArithmeticException.class, x::share);
    }

    /** alike: "UNKNOWN; OUTSIDE, as run()": the first and the last that are not refused. */
    private static void alikeFirstAndLastSteps() {
        SelfChange x = Stories.manyAt(16, 10);
        Stories.bytes(x, 16, GO, 254);
        int[] steps = {1, 400};
        for (int n : steps) {
            DUE.answer("alike(0, ..) of " + n, x.alike(0, 1, 2, n), 1);
            DUE.answer("alike(9, ..) of " + n, x.alike(9, 1, 2, n), 1);
            DUE.answer("run(9, ..) of " + n, x.run(9, 1, 2, n), -4);
        }
    }
}
