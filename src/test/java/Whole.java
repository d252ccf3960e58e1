/**
 * All that calls can tell of an object, as a text: what it answers now, what lies in its SNAPSHOTS
 * and KEPT ones, what comes BACK from ASIDE, and how much room is left. Each look takes a new object
 * of the same making, so that none is used for more than the document's 512 calls.
 */
final class Whole {
    interface Recipe {
        SelfChange made();
    }

    private static final int MOST_KEPT = 8;
    private static final int MOST_SNAPSHOTS = 4;
    private static final int MOST_ROUTINES = 10;

    private Whole() {
    }

    static String of(Recipe recipe) {
        StringBuilder all = new StringBuilder();
        bytes(all, recipe.made());
        numbers(all, recipe.made());
        members(all, recipe.made());
        for (int depth = 1; depth <= MOST_KEPT + 1; depth++) {
            undone(all, recipe, depth);
        }
        for (int s = 0; s <= MOST_SNAPSHOTS; s++) {
            restored(all, recipe, s);
        }
        roomLeft(all, recipe.made());
        return all.toString();
    }

    private static void bytes(StringBuilder all, SelfChange x) {
        for (int place = 0; place < 256; place++) {
            all.append("\nread(").append(place).append(") ").append(x.read(place));
        }
    }

    private static void numbers(StringBuilder all, SelfChange x) {
        for (int what = 0; what < 9; what++) {
            all.append("\ncount(").append(what).append(") ").append(x.count(what));
            all.append("\nran(").append(what).append(") ").append(x.ran(what));
        }
        for (int page = 0; page < 16; page++) {
            all.append("\npage(").append(page).append(") ").append(x.page(page));
        }
        all.append("\nshare() ");
        try {
            all.append(x.share());
        } catch (ArithmeticException e) {
            all.append("throws");
        }
    }

    private static void members(StringBuilder all, SelfChange x) {
        int routines = x.count(0);
        for (int r = 0; r < routines; r++) {
            for (int what = 0; what < 7; what++) {
                all.append("\nmember(").append(r).append(", ").append(what).append(") ").append(x.member(r, what));
            }
            all.append("\nmakeable(").append(r).append(") ").append(x.makeable(r));
            int heads = x.member(r, 1);
            for (int i = 0; i < heads; i++) {
                all.append("\nhead(").append(r).append(", ").append(i).append(") ").append(x.head(r, i));
            }
        }
    }

    private static void undone(StringBuilder all, Recipe recipe, int depth) {
        SelfChange x = recipe.made();
        SelfChange y = recipe.made();
        for (int i = 0; i < depth; i++) {
            all.append("\nundo() ").append(x.undo());
            y.undo();
        }
        bytes(all, x);
        numbers(all, y);
    }

    private static void restored(StringBuilder all, Recipe recipe, int snapshot) {
        SelfChange x = recipe.made();
        SelfChange y = recipe.made();
        all.append("\nrestore(").append(snapshot).append(") ").append(x.restore(snapshot));
        y.restore(snapshot);
        bytes(all, x);
        numbers(all, y);
    }

    private static void roomLeft(StringBuilder all, SelfChange x) {
        for (int i = 0; i <= MOST_SNAPSHOTS; i++) {
            all.append("\nsnapshot() ").append(x.snapshot());
        }
        for (int i = 0; i <= MOST_ROUTINES; i++) {
            all.append("\nroutine(9) ").append(x.routine(9));
        }
        all.append("\nmake() ").append(x.make());
    }
}
