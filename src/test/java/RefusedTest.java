import java.util.List;

/**
 * 'Terms': "Refused, and nothing changes: UNKNOWN (there is no such thing), OUTSIDE (a number is not
 * as told), STATE (not now), FULL: the first of these that fits." Each call that can be refused, on
 * an empty, a rich and a full object, with the first numbers that are wrong on both ends.
 */
public final class RefusedTest {
    private interface On {
        long call(SelfChange x);
    }

    private static final int LEAST = Integer.MIN_VALUE;
    private static final int MOST = Integer.MAX_VALUE;
    private static final int[] NO_BYTE = {-1, 256, LEAST, MOST};
    private static final Due DUE = new Due("RefusedTest");

    private final String name;
    private final Whole.Recipe recipe;
    private final String before;
    private final int routines;
    private final int snapshots;

    private RefusedTest(String name, Whole.Recipe recipe) {
        this.name = name;
        this.recipe = recipe;
        before = Whole.of(recipe);
        routines = recipe.made().count(0);
        snapshots = recipe.made().count(2);
    }

    public static void main(String[] args) {
        RefusedTest empty = new RefusedTest("empty", SelfChange::new);
        RefusedTest rich = new RefusedTest("rich", Stories::rich);
        RefusedTest full = new RefusedTest("full", Stories::full);
        for (RefusedTest state : List.of(empty, rich, full)) {
            state.bytes();
            state.routines();
            state.ofNoRoutine();
            state.numbers();
            state.restores();
        }
        for (RefusedTest state : List.of(rich, full)) {
            state.ofARoutine();
            state.runs();
        }
        empty.notNow();
        new RefusedTest("all undone", RefusedTest::allUndone).noUndo();
        new RefusedTest("none walked", RefusedTest::noneWalked).noShare();
        full.noRoom();
        DUE.end();
    }

    private static SelfChange allUndone() {
        SelfChange x = Stories.full();
        for (int i = 0; i < 8; i++) {
            x.undo();
        }
        return x;
    }

    private static SelfChange noneWalked() {
        SelfChange x = Stories.made(16, 3, 0);
        x.run(0, 1, 2, 9);
        return x;
    }

    private void refused(String call, long want, On it) {
        DUE.answer(name + ": " + call, it.call(recipe.made()), want);
        unchanged(call, it);
    }

    private void throwing(String call, Class<? extends RuntimeException> want, On it) {
        DUE.exception(name + ": " + call, want, () -> it.call(recipe.made()));
        unchanged(call, x -> {
            try {
                return it.call(x);
            } catch (RuntimeException e) {
                return 0;
            }
        });
    }

    private void unchanged(String call, On it) {
        DUE.same(name + ": behind " + call, Whole.of(() -> {
            SelfChange x = recipe.made();
            it.call(x);
            return x;
        }), before);
    }

    /** put "OUTSIDE: the place (0 .. 255), n (1 .. 8)"; write "OUTSIDE: both"; read "it is not 0 .. 255". */
    private void bytes() {
        int[] noLength = {0, 9, -1, LEAST, MOST};
        for (int n : noLength) {
            refused("put(0, -1, " + n + ")", -2, x -> x.put(0, -1L, n));
            refused("put(255, -1, " + n + ")", -2, x -> x.put(255, -1L, n));
            refused("put(-1, -1, " + n + ")", -2, x -> x.put(-1, -1L, n));
        }
        for (int v : NO_BYTE) {
            refused("put(" + v + ", -1, 1)", -2, x -> x.put(v, -1L, 1));
            refused("put(" + v + ", -1, 8)", -2, x -> x.put(v, -1L, 8));
            refused("write(" + v + ", 99)", -2, x -> x.write(v, 99));
            refused("write(0, " + v + ")", -2, x -> x.write(0, v));
            refused("write(16, " + v + ")", -2, x -> x.write(16, v));
            refused("write(255, " + v + ")", -2, x -> x.write(255, v));
            refused("write(" + v + ", " + v + ")", -2, x -> x.write(v, v));
            throwing("read(" + v + ")", ArrayIndexOutOfBoundsException.class, x -> x.read(v));
        }
    }

    /** routine "OUTSIDE; FULL", with "places 0 .. 255"; on a full object OUTSIDE comes ahead of FULL. */
    private void routines() {
        for (int place : NO_BYTE) {
            refused("routine(" + place + ")", -2, x -> x.routine(place));
        }
    }

    private int[] noRoutines() {
        return new int[] {-1, routines, 10, 11, LEAST, MOST};
    }

    /** UNKNOWN of member, head, makeable, run and alike; ahead of OUTSIDE and of what head throws. */
    private void ofNoRoutine() {
        int[] steps = {1, 400, 0, 401};
        int[] others = {0, 6, -1, 7, 24, LEAST, MOST};
        for (int r : noRoutines()) {
            for (int other : others) {
                refused("member(" + r + ", " + other + ")", -1, x -> x.member(r, other));
                refused("head(" + r + ", " + other + ")", -1, x -> x.head(r, other));
            }
            refused("makeable(" + r + ")", -1, x -> x.makeable(r));
            for (int n : steps) {
                refused("run(" + r + ", 1, 2, " + n + ")", -1, x -> x.run(r, 1, 2, n));
                refused("alike(" + r + ", 1, 2, " + n + ")", -1, x -> x.alike(r, 1, 2, n));
            }
        }
    }

    /** ran "OUTSIDE: as -2000000002", page "OUTSIDE", count "OUTSIDE". */
    private void numbers() {
        int[] noWhat = {-1, 9, LEAST, MOST};
        for (int what : noWhat) {
            refused("ran(" + what + ")", -2000000002, x -> x.ran(what));
            refused("count(" + what + ")", -2, x -> x.count(what));
        }
        int[] noPage = {-1, 16, LEAST, MOST};
        for (int page : noPage) {
            refused("page(" + page + ")", -2, x -> x.page(page));
        }
    }

    /** restore "UNKNOWN". */
    private void restores() {
        int[] none = {-1, snapshots, 4, 5, LEAST, MOST};
        for (int s : none) {
            refused("restore(" + s + ")", -1, x -> x.restore(s));
        }
    }

    /** member "OUTSIDE"; head "NullPointerException: it has none; ArrayIndexOutOfBoundsException: ..". */
    private void ofARoutine() {
        int[] noWhat = {-1, 7, LEAST, MOST};
        for (int what : noWhat) {
            refused("member(0, " + what + ")", -2, x -> x.member(0, what));
            int last = routines - 1;
            refused("member(" + last + ", " + what + ")", -2, x -> x.member(last, what));
        }
        int[] noHead = {-1, 2, 24, LEAST, MOST};
        for (int i : noHead) {
            throwing("head(0, " + i + ")", ArrayIndexOutOfBoundsException.class, x -> x.head(0, i));
        }
        int[] any = {0, -1, 1, 24, LEAST, MOST};
        for (int i : any) {
            throwing("head(1, " + i + ")", NullPointerException.class, x -> x.head(1, i));
            throwing("head(2, " + i + ")", NullPointerException.class, x -> x.head(2, i));
        }
    }

    /** run "so many STEPS at most (1 .. 400) .. OUTSIDE"; alike "OUTSIDE, as run()". */
    private void runs() {
        int[] noSteps = {0, 401, -1, LEAST, MOST};
        int[] some = {0, routines - 1};
        for (int n : noSteps) {
            for (int r : some) {
                refused("run(" + r + ", 1, 2, " + n + ")", -2, x -> x.run(r, 1, 2, n));
                refused("alike(" + r + ", 1, 2, " + n + ")", -2, x -> x.alike(r, 1, 2, n));
            }
        }
    }

    private void notNow() {
        noUndo();
        noShare();
    }

    /** undo "STATE: none is KEPT". */
    private void noUndo() {
        refused("undo()", -3, SelfChange::undo);
    }

    /** share "ArithmeticException: none were WALKED". */
    private void noShare() {
        throwing("share()", ArithmeticException.class, SelfChange::share);
    }

    /** routine "FULL", with ROUTINES 0 .. 9; snapshot "FULL: there are 4". */
    private void noRoom() {
        refused("routine(0)", -4, x -> x.routine(0));
        refused("routine(255)", -4, x -> x.routine(255));
        refused("snapshot()", -4, SelfChange::snapshot);
    }
}
