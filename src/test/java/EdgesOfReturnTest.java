/** The edges of 'Terms' where MEMBERS lie ASIDE and MEMORY is KEPT, and of promises 14 to 16. */
public final class EdgesOfReturnTest implements Acts {
    private static final Due DUE = new Due("EdgesOfReturnTest");

    public static void main(String[] args) {
        oneLiesAside();
        inPlaceOfAnotherOne();
        asideStaysWhereNoneIsMade();
        backByRestoreAndUndoAlone();
        notBackBesideAMember();
        notBackForGood();
        backWhenAllBytesAreAsTheyWere();
        backAsItWasMade();
        backOfTheOthersStays();
        eightAreKept();
        eightStayBehindCallsThatChangeNone();
        keptByCallsThatChange();
        keptByThreeCallsAlone();
        keptOfARunAsItWasBefore();
        snapshotsFirstToLast();
        snapshotIsLaidAside();
        restoreFirstToLast();
        restoreAnswersNoneToTen();
        restoreOfWhatIsThere();
        restoreLeavesTheKeptOnes();
        undoNoneKept();
        undoTheLatestThatIsGoneThen();
        undoAnswersNoneToTen();
        droppedAndBackTogether();
        DUE.end();
    }

    /** "The MEMBER of a ROUTINE that was DROPPED last lies ASIDE". */
    private static void oneLiesAside() {
        SelfChange x = Stories.made(100);
        DUE.answer("none at first", x.member(0, 5), 0);
        x.write(99, 1);
        DUE.answer("none without a drop", x.member(0, 5), 0);
        x.write(100, SWAP);
        DUE.answer("one", x.member(0, 5), 1);
        x.make();
        DUE.answer("one beside a new MEMBER", x.member(0, 5), 1);
        x.undo();
        DUE.answer("the new one in its place", x.member(0, 5), 1);
        DUE.answer("and no MEMBER", x.member(0, 0), 0);
    }

    /** "in place of another one": the earlier one comes not BACK, the later one does. */
    private static void inPlaceOfAnotherOne() {
        SelfChange x = Stories.made(100);
        x.snapshot();
        x.write(100, SWAP);
        x.snapshot();
        x.make();
        x.write(100, TIMES);
        DUE.answer("the earlier one's bytes", x.restore(0), 0);
        DUE.answer("no MEMBER", x.member(0, 0), 0);
        DUE.answer("the later one's bytes", x.restore(1), 100);
        DUE.answer("HEADS of the later one", x.member(0, 1), 2);
        DUE.answer("none ASIDE, it is BACK", x.member(0, 5), 0);
    }

    /** A make() that comes to none, and makeable(), leave what lies ASIDE as it is. */
    private static void asideStaysWhereNoneIsMade() {
        int[] noMember = {FIRST_NONE, GO};
        for (int kind : noMember) {
            SelfChange x = Stories.made(100, SET, 255, SWAP);
            DUE.answer("write()", x.write(100, kind), 1);
            DUE.answer("makeable()", x.makeable(0), 0);
            DUE.answer("make()", x.make(), 0);
            DUE.answer("undo()", x.undo(), 100);
            int[] heads = {100, 102, 103};
            DUE.answer("HEADS", x.member(0, 1), 3);
            for (int i = 0; i < 3; i++) {
                DUE.answer("head(0, " + i + ")", x.head(0, i), heads[i]);
            }
            DUE.answer("places", x.member(0, 2), 4);
        }
    }

    /** "it is BACK, when restore() or undo() is done": not by put(), write(), a RUN or make(). */
    private static void backByRestoreAndUndoAlone() {
        SelfChange x = Stories.made(100);
        x.routine(50);
        Stories.bytes(x, 50, STORE, 100);
        x.write(100, SWAP);
        x.put(100, END, 1);
        DUE.answer("put()", x.member(0, 0), 0);
        x.write(100, SWAP);
        x.write(100, END);
        DUE.answer("write()", x.member(0, 0), 0);
        x.write(100, SWAP);
        x.run(1, END, 0, 400);
        DUE.answer("run()", x.member(0, 0), 0);
        DUE.answer("the bytes are as they were", x.read(100), END);
        x.snapshot();
        DUE.answer("snapshot()", x.member(0, 0), 0);
        DUE.answer("BACK in all", x.count(7), 0);
        DUE.answer("restore()", x.restore(0), 100);
        DUE.answer("BACK in all", x.count(7), 1);
        SelfChange y = Stories.made(100);
        y.write(100, SWAP);
        DUE.answer("undo()", y.undo(), 100);
        DUE.answer("BACK in all", y.count(7), 1);
        SelfChange z = Stories.made(100);
        z.write(100, SWAP);
        z.write(100, END);
        DUE.answer("make() makes a new one", z.make(), 1);
        DUE.answer("BACK in all", z.count(7), 0);
        DUE.answer("MEMBERS made", z.count(5), 2);
    }

    /** "the ROUTINE has no MEMBER". */
    private static void notBackBesideAMember() {
        SelfChange x = Stories.made(100);
        x.write(100, SWAP);
        x.write(100, END);
        x.make();
        x.snapshot();
        DUE.answer("restore()", x.restore(0), 0);
        x.write(200, 1);
        DUE.answer("undo()", x.undo(), 0);
        DUE.answer("one lies ASIDE still", x.member(0, 5), 1);
        DUE.answer("MEMBERS", x.count(1), 1);
    }

    /** "is not WALKED for good": with two drops it is BACK, with three not. */
    private static void notBackForGood() {
        SelfChange x = Stories.made(100);
        x.snapshot();
        int[] want = {100, 100, 0};
        for (int i = 0; i < 3; i++) {
            x.write(100, SWAP);
            DUE.answer("restore() behind drop " + (i + 1), x.restore(0), want[i]);
        }
        DUE.answer("one lies ASIDE still", x.member(0, 5), 1);
    }

    /** "all bytes are as they were when it was made": each of its places, and no other one. */
    private static void backWhenAllBytesAreAsTheyWere() {
        // SET at 254 and 255, SWAP at 0, STORE at 1 and 2, END at 3.
        for (int place = 250; place < 264; place++) {
            SelfChange x = Stories.with(254, SET, 9, SWAP, STORE, 9);
            x.make();
            boolean its = place >= 254 && place < 260;
            x.write(place & 255, 12);
            x.snapshot();
            x.write(3, SWAP);
            DUE.answer("with another byte at " + (place & 255), x.restore(0), its ? 0 : 100);
            DUE.answer("member(0, 0)", x.member(0, 0), its ? 0 : 1);
        }
    }

    /** What is BACK is the MEMBER as it was: its HEADS, places, PAGES, and its STEPS. */
    private static void backAsItWasMade() {
        SelfChange x = Stories.made(254, SET, 9, SWAP);
        x.put(254, -1L, 8);
        DUE.answer("BACK", x.undo(), 100);
        int[] want = {1, 3, 4, 1, 0, 0, 254};
        for (int what = 0; what < 7; what++) {
            DUE.answer("member(0, " + what + ")", x.member(0, what), want[what]);
        }
        int[] heads = {0, 1, 254};
        for (int i = 0; i < 3; i++) {
            DUE.answer("head(0, " + i + ")", x.head(0, i), heads[i]);
        }
        DUE.answer("page(15)", x.page(15), 1);
        DUE.answer("page(0)", x.page(0), 1);
        DUE.answer("run", x.run(0, 0, 5, 400), 1);
        DUE.answer("BY MEMBERS", x.ran(3), 3);
        DUE.answer("a byte of it drops it again", x.write(255, 8), 1);
    }

    private static void backOfTheOthersStays() {
        SelfChange x = Stories.manyAt(100, 2);
        x.routine(50);
        x.make();
        x.write(100, SWAP);
        DUE.answer("two BACK, the third was there", x.undo(), 200);
        DUE.answer("MEMBERS", x.count(1), 3);
        DUE.answer("DROPPED of the third", x.member(2, 3), 0);
    }

    /** "KEPT: MEMORY as it was before the latest 8 calls": 7, 8, and 9, of which the first is gone. */
    private static void eightAreKept() {
        for (int calls = 0; calls <= 20; calls++) {
            SelfChange x = new SelfChange();
            for (int i = 1; i <= calls; i++) {
                x.write(255, i);
                DUE.answer("KEPT", x.count(3), Math.min(i, 8));
            }
            int kept = Math.min(calls, 8);
            for (int i = 1; i <= kept; i++) {
                DUE.answer("undo()", x.undo(), 0);
                DUE.answer("the byte", x.read(255), calls - i);
                DUE.answer("KEPT", x.count(3), kept - i);
            }
            DUE.answer("undo() of none", x.undo(), -3);
            DUE.answer("the byte", x.read(255), calls - kept);
        }
    }

    /** With eight KEPT, the first of them stays till a call changes some byte. */
    private static void eightStayBehindCallsThatChangeNone() {
        for (int more = 0; more < 9; more++) {
            SelfChange x = Stories.manyAt(100, 1);
            for (int i = 1; i <= 8 + more; i++) {
                x.write(9, i);
            }
            x.write(9, 8 + more);
            x.put(9, 8 + more, 1);
            x.run(0, 0, 0, 400);
            x.write(9, 256);
            DUE.answer("KEPT", x.count(3), 8);
            for (int i = 7; i >= 0; i--) {
                DUE.answer("undo()", x.undo(), 0);
                DUE.answer("the byte", x.read(9), i + more);
                x.write(9, i + more);
            }
            DUE.answer("undo() of none", x.undo(), -3);
        }
    }

    /** "that changed some byte of it": one is enough, the first or the last; none is not. */
    private static void keptByCallsThatChange() {
        SelfChange x = Stories.with(100, STORE, 102);
        DUE.answer("KEPT", x.count(3), 2);
        x.put(96, 0x0000000005660000L, 8);
        x.write(100, STORE);
        x.run(0, 0, 0, 400);
        DUE.answer("calls that changed none", x.count(3), 2);
        x.put(100, 0x0566000000000001L, 8);
        DUE.answer("put() of its last byte", x.count(3), 3);
        x.put(99, 0x0105660000000000L, 8);
        DUE.answer("put() of its first byte", x.count(3), 4);
        x.write(200, 1);
        DUE.answer("write()", x.count(3), 5);
        x.run(0, SWAP, 0, 400);
        DUE.answer("run()", x.count(3), 6);
        x.run(0, TIMES, 0, 1);
        DUE.answer("run() that is SPENT", x.count(3), 7);
        // SET 1, STORE 200, SET 0, STORE 200: a byte was changed, and changed back.
        SelfChange y = new SelfChange();
        y.routine(100);
        y.put(100, 0x010105C8010005C8L, 8);
        DUE.answer("KEPT", y.count(3), 1);
        y.run(0, 0, 0, 400);
        DUE.answer("run() that changed a byte back", y.count(3), 2);
        DUE.answer("undo()", y.undo(), 0);
        DUE.answer("undo()", y.undo(), 0);
        DUE.answer("the acts are undone", y.read(100), 0);
    }

    /** "calls put(), write(), run()": by no other call, and by none that is refused. */
    private static void keptByThreeCallsAlone() {
        SelfChange x = Stories.with(100, STORE, 200);
        x.snapshot();
        x.write(201, 1);
        DUE.answer("KEPT", x.count(3), 3);
        x.make();
        x.restore(0);
        x.alike(0, 9, 9, 9);
        x.routine(50);
        x.snapshot();
        x.write(256, 9);
        x.write(9, 256);
        x.put(9, -1L, 9);
        x.run(2, 9, 9, 9);
        x.run(0, 9, 9, 0);
        DUE.answer("KEPT by no other call", x.count(3), 3);
        x.undo();
        DUE.answer("one less by undo()", x.count(3), 2);
    }

    private static void keptOfARunAsItWasBefore() {
        SelfChange x = Stories.with(100, STORE, 200, GROW, 1, STORE, 201, GROW, 1, STORE, 202);
        x.run(0, 5, 0, 400);
        DUE.answer("the last byte", x.read(202), 7);
        DUE.answer("undo() of all in one", x.undo(), 0);
        for (int place = 200; place <= 202; place++) {
            DUE.answer("read(" + place + ")", x.read(place), 0);
        }
        DUE.answer("the acts stay", x.read(108), STORE);
    }

    /** snapshot: "its number. FULL: there are 4." */
    private static void snapshotsFirstToLast() {
        SelfChange x = new SelfChange();
        for (int s = 0; s < 4; s++) {
            DUE.answer("SNAPSHOTS", x.count(2), s);
            DUE.answer("restore(" + s + ") before it", x.restore(s), -1);
            DUE.answer("snapshot()", x.snapshot(), s);
            DUE.answer("restore(" + s + ")", x.restore(s), 0);
        }
        DUE.answer("a fifth", x.snapshot(), -4);
        DUE.answer("SNAPSHOTS", x.count(2), 4);
        DUE.answer("restore(4)", x.restore(4), -1);
        DUE.answer("restore(-1)", x.restore(-1), -1);
    }

    /** snapshot: "MEMORY is laid aside": all of it, as it is then, and it stays. */
    private static void snapshotIsLaidAside() {
        SelfChange x = Stories.with(100, STORE, 255);
        x.write(0, 1);
        x.write(255, 2);
        x.snapshot();
        x.write(0, 3);
        x.run(0, 4, 0, 400);
        x.snapshot();
        DUE.answer("a snapshot() changes no byte", x.read(255), 4);
        for (int i = 0; i < 2; i++) {
            DUE.answer("restore(0)", x.restore(0), 0);
            DUE.answer("its first byte", x.read(0), 1);
            DUE.answer("its last byte", x.read(255), 2);
            DUE.answer("restore(1)", x.restore(1), 0);
            DUE.answer("its first byte", x.read(0), 3);
            DUE.answer("its last byte", x.read(255), 4);
        }
    }

    /** restore: "MEMORY becomes a SNAPSHOT", the first to the last, of four that differ. */
    private static void restoreFirstToLast() {
        SelfChange x = new SelfChange();
        for (int s = 0; s < 4; s++) {
            x.put(254, 0x01010101L * (s + 1), 4);
            x.snapshot();
        }
        int[] order = {0, 3, 1, 2, 3, 0};
        for (int s : order) {
            DUE.answer("restore(" + s + ")", x.restore(s), 0);
            for (int place = 254; place < 258; place++) {
                DUE.answer("read(" + (place & 255) + ")", x.read(place & 255), s + 1);
            }
        }
    }

    /** restore: "how many MEMBERS were DROPPED, and 100 times how many are BACK". */
    private static void restoreAnswersNoneToTen() {
        for (int n = 0; n <= 10; n++) {
            SelfChange x = Stories.manyAt(255, n);
            x.snapshot();
            x.write(255, SWAP);
            x.make();
            x.snapshot();
            DUE.answer("DROPPED " + n, x.restore(0), n);
            DUE.answer("BACK " + n, x.restore(1), 100 * n);
            DUE.answer("BACK in all", x.count(7), n);
            DUE.answer("DROPPED in all", x.count(6), n);
        }
    }

    private static void restoreOfWhatIsThere() {
        SelfChange x = Stories.made(100, SET, 9);
        x.snapshot();
        DUE.answer("restore()", x.restore(0), 0);
        DUE.answer("its MEMBER", x.member(0, 0), 1);
        DUE.answer("LOOKS", x.count(4), 0);
    }

    /** restore: "(KEPT ones stay.)": none, some, and all eight. */
    private static void restoreLeavesTheKeptOnes() {
        for (int kept = 0; kept <= 8; kept++) {
            SelfChange x = new SelfChange();
            x.snapshot();
            for (int i = 1; i <= kept; i++) {
                x.write(9, i);
            }
            x.restore(0);
            DUE.answer("KEPT", x.count(3), kept);
            for (int i = kept - 1; i >= 0; i--) {
                DUE.answer("undo()", x.undo(), 0);
                DUE.answer("the byte", x.read(9), i);
            }
            DUE.answer("undo() of none", x.undo(), -3);
        }
    }

    /** undo: "STATE: none is KEPT": never, not any more, and again behind a call that changed none. */
    private static void undoNoneKept() {
        SelfChange x = new SelfChange();
        DUE.answer("undo() at first", x.undo(), -3);
        x.write(9, 0);
        DUE.answer("undo() of no change", x.undo(), -3);
        x.write(9, 1);
        DUE.answer("undo() of one", x.undo(), 0);
        DUE.answer("undo() of none", x.undo(), -3);
        x.snapshot();
        x.restore(0);
        DUE.answer("undo() behind restore()", x.undo(), -3);
    }

    /** undo: "MEMORY becomes the latest KEPT one, which is gone then". */
    private static void undoTheLatestThatIsGoneThen() {
        SelfChange x = new SelfChange();
        for (int i = 1; i <= 11; i++) {
            x.write(9, i);
        }
        x.undo();
        x.undo();
        DUE.answer("two undone", x.read(9), 9);
        for (int i = 21; i <= 23; i++) {
            x.write(9, i);
        }
        DUE.answer("KEPT", x.count(3), 8);
        int[] want = {22, 21, 9, 8, 7, 6, 5, 4};
        for (int value : want) {
            DUE.answer("undo()", x.undo(), 0);
            DUE.answer("the byte", x.read(9), value);
        }
        DUE.answer("undo() of none", x.undo(), -3);
    }

    /** undo: "DROPPED, and 100 times BACK". */
    private static void undoAnswersNoneToTen() {
        for (int n = 0; n <= 10; n++) {
            SelfChange x = Stories.manyAt(0, n);
            x.write(0, SWAP);
            x.make();
            DUE.answer("DROPPED " + n, x.undo(), n);
            SelfChange y = Stories.manyAt(0, n);
            y.make();
            y.write(0, SWAP);
            DUE.answer("BACK " + n, y.undo(), 100 * n);
        }
    }

    /** In one restore() the first n are DROPPED, and the others are BACK. */
    private static void droppedAndBackTogether() {
        for (int n = 0; n <= 9; n++) {
            SelfChange x = Stories.manyAt(50, n);
            for (int r = n; r < 10; r++) {
                x.routine(100);
            }
            x.write(50, SWAP);
            x.snapshot();
            x.write(50, END);
            x.make();
            x.write(100, SWAP);
            DUE.answer("DROPPED " + n + ", the others BACK", x.restore(0), n + 100 * (10 - n));
        }
    }
}
