/** The edges of 'Terms', MEMBERS, till they are DROPPED, and of promises 5 to 9 and 13. */
public final class EdgesOfMembersTest implements Acts {
    private static final Due DUE = new Due("EdgesOfMembersTest");
    private static final int[] GOING_ON_BEHIND = {SET, GROW, SWAP, LOAD, STORE, GO_IF_ZERO, GO_IF_LEFT, CALL,
        LOAD_AT_B, STORE_AT_B, TIMES};

    public static void main(String[] args) {
        tenRoutinesAsTheyCome();
        routinesAtFirstAndLastPlace();
        noHeadBehindEndAndGo();
        headBehindTheOthers();
        whereJumpsGoOnOtherwise();
        noHeadWhereACallGoes();
        headsAsActsAreNow();
        headsOverTheEnd();
        headsAtMost();
        headsAtMostWithJumps();
        headsOfAllMemory();
        actsOfAKind();
        aKindAtTheLastHead();
        noPlaceInTwoActs();
        noPlaceInTwoActsOverTheEnd();
        placesOfAMember();
        placesAtMost();
        makeNoneToTen();
        makeOfThoseThatHaveNone();
        memberWithoutOne();
        memberNumbers();
        headFirstToLast();
        headsByRisingPlaces();
        makeableOfEach();
        makeableChangesNothing();
        pageNoneToTen();
        pageFirstAndLast();
        DUE.end();
    }

    /** "ROUTINES 0 .. 9, as they come"; routine "FULL". */
    private static void tenRoutinesAsTheyCome() {
        SelfChange x = new SelfChange();
        for (int r = 0; r < 10; r++) {
            DUE.answer("ROUTINES", x.count(0), r);
            DUE.answer("makeable(" + r + ") before it came", x.makeable(r), -1);
            DUE.answer("routine()", x.routine(90 - r), r);
            DUE.answer("makeable(" + r + ")", x.makeable(r), 1);
        }
        DUE.answer("an eleventh", x.routine(90), -4);
        DUE.answer("ROUTINES", x.count(0), 10);
        for (int r = 0; r < 10; r++) {
            DUE.answer("the place of " + r, x.member(r, 6), 90 - r);
        }
        DUE.answer("makeable(10)", x.makeable(10), -1);
    }

    /** "begin at a place", 0 .. 255; several may begin at the same one. */
    private static void routinesAtFirstAndLastPlace() {
        SelfChange x = new SelfChange();
        DUE.answer("routine(0)", x.routine(0), 0);
        DUE.answer("routine(255)", x.routine(255), 1);
        DUE.answer("routine(0) again", x.routine(0), 2);
        int[] places = {0, 255, 0};
        for (int r = 0; r < 3; r++) {
            DUE.answer("its place", x.member(r, 6), places[r]);
            DUE.answer("run", x.run(r, 0, 0, 1), 1);
            DUE.answer("its END", x.ran(6), places[r]);
        }
    }

    /** HEADS: "the place behind it (but of 0, 6)". */
    private static void noHeadBehindEndAndGo() {
        SelfChange end = Stories.made(100, END, FIRST_NONE);
        DUE.answer("HEADS of END", end.member(0, 1), 1);
        SelfChange go = Stories.made(100, GO, 1, FIRST_NONE, END);
        DUE.answer("HEADS of GO and END", go.member(0, 1), 2);
        DUE.answer("the second", go.head(0, 1), 103);
    }

    private static void headBehindTheOthers() {
        for (int kind : GOING_ON_BEHIND) {
            boolean two = kind != SWAP && kind < LOAD_AT_B;
            int behind = two ? 102 : 101;
            SelfChange x = Stories.with(100, kind, two ? 9 : END);
            x.write(behind, FIRST_NONE);
            DUE.answer("no KIND behind " + kind, x.makeable(0), 0);
            x.write(behind, END);
            DUE.answer("a KIND behind " + kind, x.makeable(0), 1);
            x.make();
            DUE.answer("the HEAD behind " + kind, x.head(0, 1), behind);
        }
    }

    /** HEADS: "and where 6, 7, 8 go on otherwise". */
    private static void whereJumpsGoOnOtherwise() {
        int[] ways = {127, 1, -3, -128};
        for (int kind = GO; kind <= GO_IF_LEFT; kind++) {
            for (int d : ways) {
                SelfChange x = Stories.with(200, kind, d & 255);
                int there = (202 + d) & 255;
                x.write(there, FIRST_NONE);
                DUE.answer("KIND " + kind + " by " + d + " to no KIND", x.makeable(0), 0);
                x.write(there, END);
                DUE.answer("KIND " + kind + " by " + d + " to END", x.make(), 1);
                DUE.answer("its HEADS", x.member(0, 1), kind == GO ? 2 : 3);
                DUE.answer("a byte there drops it", x.write(there, SWAP), 1);
            }
            SelfChange itself = Stories.made(200, kind, 254);
            DUE.answer("HEADS of KIND " + kind + " to itself", itself.member(0, 1), kind == GO ? 1 : 2);
            SelfChange behind = Stories.made(200, kind, 0);
            DUE.answer("HEADS of KIND " + kind + " by 0", behind.member(0, 1), 2);
        }
    }

    /** 9 goes to no HEAD of its own ROUTINE, even if there is no such ROUTINE. */
    private static void noHeadWhereACallGoes() {
        SelfChange x = Stories.with(100, CALL, 1, CALL, 255);
        x.routine(50);
        x.write(50, FIRST_NONE);
        DUE.answer("makeable", x.makeable(0), 1);
        DUE.answer("make()", x.make(), 1);
        DUE.answer("HEADS", x.member(0, 1), 3);
        DUE.answer("a byte of the other", x.write(50, END), 0);
    }

    /** "of each HEAD, as its ACT is now". */
    private static void headsAsActsAreNow() {
        SelfChange x = Stories.made(100, GO, 2, FIRST_NONE, FIRST_NONE, END);
        DUE.answer("the HEAD where it goes", x.head(0, 1), 104);
        x.write(101, 3);
        DUE.answer("make()", x.make(), 1);
        DUE.answer("the HEAD where it goes now", x.head(0, 1), 105);
        x.write(100, SET);
        DUE.answer("no KIND is behind it now", x.makeable(0), 0);
        x.write(102, END);
        DUE.answer("make()", x.make(), 1);
        DUE.answer("the HEAD behind it", x.head(0, 1), 102);
    }

    /** HEADS are places, and "places are taken modulo 256". */
    private static void headsOverTheEnd() {
        SelfChange one = Stories.made(255, SWAP, END);
        DUE.answer("behind 255", one.head(0, 0), 0);
        SelfChange two = Stories.made(254, SET, 9, END);
        DUE.answer("behind 254 and 255", two.head(0, 0), 0);
        SelfChange over = Stories.made(255, SET, 9, END);
        DUE.answer("behind 255 and 0", over.head(0, 0), 1);
        DUE.answer("a byte at 0 drops it", over.write(0, 8), 1);
        SelfChange back = Stories.made(0, GO, 253);
        DUE.answer("from 0 back", back.head(0, 1), 255);
        SelfChange ahead = Stories.made(200, GO, 127);
        DUE.answer("from 200 ahead", ahead.head(0, 0), 73);
    }

    private static SelfChange line(int place, int swaps) {
        SelfChange x = new SelfChange();
        x.routine(place);
        for (int i = 0; i < swaps; i++) {
            x.write((place + i) & 255, SWAP);
        }
        return x;
    }

    /** "It can be made, if it has 24 HEADS at most". */
    private static void headsAtMost() {
        int[] places = {0, 100, 240, 255};
        for (int place : places) {
            for (int heads = 1; heads <= 30; heads++) {
                SelfChange x = line(place, heads - 1);
                DUE.answer(heads + " HEADS from " + place + " on", x.makeable(0), heads <= 24 ? 1 : 0);
                DUE.answer("make()", x.make(), heads <= 24 ? 1 : 0);
                DUE.answer("HEADS", x.member(0, 1), heads <= 24 ? heads : 0);
            }
        }
    }

    /** 24 and 25 HEADS, where the last ones come by jumps ahead. */
    private static void headsAtMostWithJumps() {
        for (int jumps = 10; jumps <= 13; jumps++) {
            SelfChange x = new SelfChange();
            x.routine(0);
            for (int i = 0; i < jumps; i++) {
                // Each jumps to an END of its own, from 100 on, two places apart.
                Stories.bytes(x, 2 * i, GO_IF_ZERO, 98);
            }
            int heads = 2 * jumps + 1;
            DUE.answer(heads + " HEADS by jumps", x.makeable(0), heads <= 24 ? 1 : 0);
            x.write(2 * jumps, SWAP);
            DUE.answer(heads + 1 + " HEADS by jumps", x.makeable(0), heads + 1 <= 24 ? 1 : 0);
        }
    }

    private static void headsOfAllMemory() {
        SelfChange x = line(7, 256);
        DUE.answer("256 HEADS without an END", x.makeable(0), 0);
        DUE.answer("make()", x.make(), 0);
        DUE.answer("it is SPENT", x.run(0, 1, 2, 400), -4);
        DUE.answer("its place, once round and on", x.ran(6), (7 + 400) % 256);
    }

    /** "the ACT at each is of a KIND". */
    private static void actsOfAKind() {
        for (int kind = 0; kind < 256; kind++) {
            SelfChange x = Stories.with(100, kind);
            DUE.answer("makeable with KIND " + kind, x.makeable(0), kind <= TIMES ? 1 : 0);
            DUE.answer("make() with KIND " + kind, x.make(), kind <= TIMES ? 1 : 0);
        }
    }

    private static void aKindAtTheLastHead() {
        SelfChange x = line(100, 23);
        x.write(123, FIRST_NONE);
        DUE.answer("no KIND at HEAD 24", x.makeable(0), 0);
        x.write(123, LAST_NONE);
        DUE.answer("KIND 255 at HEAD 24", x.makeable(0), 0);
        x.write(123, END);
        DUE.answer("END at HEAD 24", x.makeable(0), 1);
    }

    /** "no place is in two of these ACTS": found from either side, and not where they only touch. */
    private static void noPlaceInTwoActs() {
        SelfChange second = Stories.with(100, SET, END, GO, 253);
        DUE.answer("a HEAD at a second byte", second.makeable(0), 0);
        DUE.answer("make()", second.make(), 0);
        second.write(103, 252);
        DUE.answer("a HEAD at a first byte", second.makeable(0), 1);
        SelfChange first = Stories.with(100, SWAP, GO, 252);
        first.write(99, SET);
        DUE.answer("a second byte at a HEAD", first.makeable(0), 0);
        first.write(99, SWAP);
        DUE.answer("one byte before a HEAD", first.makeable(0), 1);
        SelfChange both = Stories.with(100, GO_IF_ZERO, 1, SET, END, END);
        DUE.answer("two HEADS, one act of two bytes", both.makeable(0), 0);
        both.write(102, SWAP);
        DUE.answer("two HEADS, acts of one byte", both.makeable(0), 1);
    }

    private static void noPlaceInTwoActsOverTheEnd() {
        SelfChange x = Stories.with(255, SET, END, GO, 253);
        DUE.answer("a HEAD at 0, a second byte", x.makeable(0), 0);
        x.write(2, 252);
        DUE.answer("a HEAD at 255", x.makeable(0), 1);
        SelfChange y = Stories.with(0, SWAP, GO, 252);
        y.write(255, SET);
        DUE.answer("the second byte of 255 at 0", y.makeable(0), 0);
        y.write(255, SWAP);
        DUE.answer("one byte at 255", y.makeable(0), 1);
    }

    /** "Its MEMBER has all places of these ACTS": of each, and none before, behind or between. */
    private static void placesOfAMember() {
        // SET at 254, SWAP at 0, GO over 3 and 4 to END at 5.
        int[] its = {254, 255, 0, 1, 2, 5};
        int[] others = {253, 3, 4, 6};
        for (int place : its) {
            SelfChange x = Stories.made(254, SET, 9, SWAP, GO, 2);
            DUE.answer("places", x.member(0, 2), 6);
            DUE.answer("write(" + place + ", ..)", x.write(place, 99), 1);
        }
        for (int place : others) {
            SelfChange x = Stories.made(254, SET, 9, SWAP, GO, 2);
            DUE.answer("write(" + place + ", ..)", x.write(place, 99), 0);
        }
    }

    private static void placesAtMost() {
        SelfChange x = new SelfChange();
        x.routine(230);
        for (int i = 0; i < 23; i++) {
            Stories.bytes(x, 230 + 2 * i, GROW, 1);
        }
        Stories.bytes(x, 230 + 46, GO, 256 - 48);
        DUE.answer("make()", x.make(), 1);
        DUE.answer("HEADS", x.member(0, 1), 24);
        DUE.answer("places", x.member(0, 2), 48);
        DUE.answer("behind its last", x.write((230 + 48) % 256, 99), 0);
        DUE.answer("before its first", x.write(229, 99), 0);
        DUE.answer("its last", x.write((230 + 47) % 256, 99), 1);
    }

    /** make: "how many". */
    private static void makeNoneToTen() {
        for (int n = 0; n <= 10; n++) {
            SelfChange x = Stories.manyAt(255, n);
            DUE.answer("make() of " + n, x.make(), n);
            DUE.answer("MEMBERS", x.count(1), n);
            DUE.answer("make() again", x.make(), 0);
            DUE.answer("MEMBERS made", x.count(5), n);
        }
    }

    /** make: "of all ROUTINES that have none, can be made, and are not WALKED for good". */
    private static void makeOfThoseThatHaveNone() {
        SelfChange x = new SelfChange();
        for (int r = 0; r < 5; r++) {
            x.routine(16 * r);
        }
        x.make();
        Stories.dropForGood(x, 16);
        x.write(32, FIRST_NONE);
        x.write(48, SWAP);
        DUE.answer("one has none and can be made", x.make(), 1);
        int[] has = {1, 0, 0, 1, 1};
        for (int r = 0; r < 5; r++) {
            DUE.answer("member(" + r + ", 0)", x.member(r, 0), has[r]);
        }
        DUE.answer("HEADS of the new one", x.member(3, 1), 2);
        x.write(32, SWAP);
        DUE.answer("now the other can", x.make(), 1);
        DUE.answer("none", x.make(), 0);
    }

    /** member: "1 how many HEADS that has (0)", and likewise the places. */
    private static void memberWithoutOne() {
        SelfChange x = new SelfChange();
        x.routine(255);
        int[] never = {0, 0, 0, 0, 0, 0, 255};
        for (int what = 0; what < 7; what++) {
            DUE.answer("member(0, " + what + ") of none", x.member(0, what), never[what]);
        }
        x.make();
        x.write(255, SWAP);
        int[] dropped = {0, 0, 0, 1, 0, 1, 255};
        for (int what = 0; what < 7; what++) {
            DUE.answer("member(0, " + what + ") behind a drop", x.member(0, what), dropped[what]);
        }
    }

    private static void memberNumbers() {
        SelfChange x = Stories.made(0, SET, 9);
        int[] made = {1, 2, 3, 0, 0, 0, 0};
        for (int what = 0; what < 7; what++) {
            DUE.answer("member(0, " + what + ")", x.member(0, what), made[what]);
        }
        x.write(1, 8);
        x.make();
        int[] again = {1, 2, 3, 1, 0, 1, 0};
        for (int what = 0; what < 7; what++) {
            DUE.answer("member(0, " + what + ") made again", x.member(0, what), again[what]);
        }
        DUE.answer("what -1", x.member(0, -1), -2);
        DUE.answer("what 7", x.member(0, 7), -2);
    }

    /** head: "ArrayIndexOutOfBoundsException: there are not so many", for 1 HEAD and for 24. */
    private static void headFirstToLast() {
        int[] counts = {1, 2, 23, 24};
        for (int heads : counts) {
            SelfChange x = line(100, heads - 1);
            x.make();
            for (int i = 0; i < heads; i++) {
                DUE.answer("head(0, " + i + ")", x.head(0, i), 100 + i);
            }
            DUE.exception("head(0, -1)", ArrayIndexOutOfBoundsException.class, () -> x.head(0, -1));
            DUE.exception("head(0, " + heads + ")", ArrayIndexOutOfBoundsException.class, () -> x.head(0, heads));
        }
        SelfChange last = Stories.manyAt(100, 10);
        last.make();
        DUE.answer("head(9, 0)", last.head(9, 0), 100);
        DUE.answer("head(10, 0)", last.head(10, 0), -1);
        last.write(100, SWAP);
        DUE.exception("head(9, 0) behind a drop", NullPointerException.class, () -> last.head(9, 0));
    }

    /** head: "by rising places", not as they were found. */
    private static void headsByRisingPlaces() {
        SelfChange x = Stories.made(250, GO_IF_ZERO, 100, GO, 200, 0);
        // 250, then 252, 96 (by 7), 198 (by 6).
        int[] want = {96, 198, 250, 252};
        for (int i = 0; i < 4; i++) {
            DUE.answer("head(0, " + i + ")", x.head(0, i), want[i]);
        }
        SelfChange over = line(250, 23);
        over.make();
        for (int i = 0; i < 24; i++) {
            DUE.answer("head(0, " + i + ") over the end", over.head(0, i), i < 18 ? i : 232 + i);
        }
    }

    /** makeable: "Whether a ROUTINE could be made as MEMORY is now (1, 0)". */
    private static void makeableOfEach() {
        SelfChange x = Stories.manyAt(100, 10);
        DUE.answer("makeable(0)", x.makeable(0), 1);
        DUE.answer("makeable(9)", x.makeable(9), 1);
        x.write(100, FIRST_NONE);
        DUE.answer("makeable(0) now", x.makeable(0), 0);
        DUE.answer("makeable(9) now", x.makeable(9), 0);
        x.write(100, END);
        x.make();
        DUE.answer("makeable(9) with a MEMBER", x.makeable(9), 1);
        Stories.dropForGood(x, 100);
        DUE.answer("makeable(9) WALKED for good", x.makeable(9), 1);
    }

    private static void makeableChangesNothing() {
        DUE.same("behind makeable()", Whole.of(() -> {
            SelfChange x = Stories.rich();
            for (int r = 0; r < 6; r++) {
                x.makeable(r);
            }
            return x;
        }), Whole.of(Stories::rich));
    }

    /** page: "How many MEMBERS have some place of a PAGE": each counts once, however many places. */
    private static void pageNoneToTen() {
        for (int n = 0; n <= 10; n++) {
            SelfChange x = Stories.manyAt(100, n);
            Stories.bytes(x, 100, SET, 9, SWAP);
            DUE.answer("page(6) before make()", x.page(6), 0);
            x.make();
            DUE.answer("page(6) of " + n, x.page(6), n);
            x.write(101, 8);
            DUE.answer("page(6) behind a drop", x.page(6), 0);
            x.undo();
            DUE.answer("page(6) of those BACK", x.page(6), n);
        }
    }

    private static void pageFirstAndLast() {
        SelfChange x = new SelfChange();
        int[] places = {0, 15, 16, 239, 240, 255};
        for (int place : places) {
            x.routine(place);
        }
        x.make();
        DUE.answer("page(0)", x.page(0), 2);
        DUE.answer("page(1)", x.page(1), 1);
        DUE.answer("page(14)", x.page(14), 1);
        DUE.answer("page(15)", x.page(15), 2);
        DUE.answer("page(-1)", x.page(-1), -2);
        DUE.answer("page(16)", x.page(16), -2);
    }
}
