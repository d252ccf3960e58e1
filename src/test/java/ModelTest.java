import java.util.Random;
import java.util.TreeMap;

/** Many runs of calls, by seeds that are always the same, against the model. */
public final class ModelTest {
    private static final int RUNS = 6000;
    // The document promises nothing about an object behind its 512th call.
    private static final int CALLS = 512;
    private static final int MOST_OF_ONE_TURN = 32;
    private static final int CALLS_FOR_EVERYTHING = 360;
    private static final String[] MUST_COME = {
        "back", "drop in a run", "drop of two", "for good", "answer -1", "answer -2", "answer -3",
        "answer -4", "answer 1", "by members and walked", "full kept", "share over 0"};

    private static final String[] MEMBER_OF = {
        "member 0", "member 1", "member 2", "member 3", "member 4", "member 5", "member 6",
        "member 7", "member 8", "member 9"};

    private final Due due;
    private final Random random;
    private final SelfChange real = new SelfChange();
    private final Model model = new Model();
    private final TreeMap<String, Integer> came;
    private String call;
    private int made;

    private ModelTest(Due due, long seed, TreeMap<String, Integer> came) {
        this.due = due;
        this.random = new Random(seed);
        this.came = came;
    }

    public static void main(String[] args) {
        Due due = new Due("ModelTest");
        TreeMap<String, Integer> came = new TreeMap<>();
        for (int seed = 0; seed < RUNS; seed++) {
            new ModelTest(due, seed, came).calls(seed);
        }
        for (String what : MUST_COME) {
            due.answer("cases of " + what + " are many", came.getOrDefault(what, 0) > 100 ? 1 : 0, 1);
        }
        System.out.println("ModelTest: " + came);
        due.end();
    }

    /** Every second run is a long one; the others leave room to ask for everything at their end. */
    private void calls(int seed) {
        boolean isLong = seed % 2 == 1;
        int most = CALLS - MOST_OF_ONE_TURN - (isLong ? 0 : CALLS_FOR_EVERYTHING);
        call("routine", place());
        while (made < most) {
            oneTurn();
            someQuestions(seed);
        }
        if (!isLong) {
            everything(seed);
        }
        due.answer("run " + seed + " keeps to the 512 calls", made <= CALLS ? 1 : 0, 1);
        note("full kept", model.kept.size() == 8);
        note("for good", model.count(8) > 0);
        note("share over 0", model.walkedInAll > 0 && model.share() > 0);
    }

    private void note(String what, boolean comes) {
        if (comes) {
            came.merge(what, 1, Integer::sum);
        }
    }

    private void oneTurn() {
        int pick = random.nextInt(100);
        if (pick < 8) {
            tellStory();
        } else if (pick < 20) {
            call("put", place(), length());
        } else if (pick < 27) {
            call("write", place(), random.nextInt(3) == 0 ? number(256) : actByte());
        } else if (pick < 30) {
            call("routine", place());
        } else if (pick < 42) {
            call("make");
        } else if (pick < 56) {
            call("run", number(model.stories.size()), start(), start(), steps());
        } else if (pick < 61) {
            call("alike", number(model.stories.size()), start(), start(), steps());
        } else if (pick < 63) {
            call("snapshot");
        } else if (pick < 66) {
            call("restore", number(model.snapshots.size()));
        } else if (pick < 74) {
            call("undo");
        } else if (pick < 80) {
            call("member", number(model.stories.size()), number(7));
        } else if (pick < 84) {
            call("head", number(model.stories.size()), number(8));
        } else if (pick < 87) {
            call("makeable", number(model.stories.size()));
        } else if (pick < 90) {
            call("count", number(9));
        } else if (pick < 93) {
            call("ran", number(9));
        } else if (pick < 95) {
            call("page", number(16));
        } else if (pick < 97) {
            call("read", number(256));
        } else if (pick < 99) {
            call("share");
        } else if (random.nextInt(4) == 0) {
            call("clear");
        }
    }

    /** An ordinary number of so many, or one beside the edges. */
    private int number(int most) {
        int[] edges = {-1, most, Integer.MIN_VALUE, Integer.MAX_VALUE};
        return most == 0 || random.nextInt(25) == 0 ? edges[random.nextInt(4)] : random.nextInt(most);
    }

    // Most happens in few places, so that routines, their jumps and their stores meet.
    private int place() {
        int pick = random.nextInt(20);
        return pick == 0 ? number(256) : pick < 4 ? 250 + random.nextInt(6) : random.nextInt(40);
    }

    private int length() {
        return random.nextInt(25) == 0 ? number(9) : 1 + random.nextInt(8);
    }

    private int steps() {
        return random.nextInt(20) == 0 ? number(401) : random.nextInt(4) == 0 ? 1 + random.nextInt(8) : 1 + random.nextInt(60);
    }

    private int start() {
        return random.nextInt(4) == 0 ? random.nextInt() : random.nextInt(48) - 4;
    }

    private int actByte() {
        int pick = random.nextInt(12);
        if (pick < 7) {
            return random.nextInt(13);
        }
        if (pick < 9) {
            return random.nextInt(40);
        }
        return pick == 9 ? 256 - 1 - random.nextInt(20) : pick == 10 ? 0 : random.nextInt(256);
    }

    private long word() {
        long w = 0;
        for (int i = 0; i < 8; i++) {
            w = w << 8 | actByte();
        }
        return w;
    }

    /** Writes acts that end, with jumps among themselves, where a routine begins, and makes them. */
    private void tellStory() {
        int at = model.stories.isEmpty() ? 0 : (int) model.member(random.nextInt(model.stories.size()), 6);
        int[] bytes = new int[2 * (1 + random.nextInt(7)) + 1];
        for (int i = 0; i < bytes.length - 1; i += 2) {
            int kind = random.nextInt(13);
            boolean jumps = kind >= 6 && kind <= 8;
            int to = 2 * random.nextInt(bytes.length / 2 + 1);
            bytes[i] = kind;
            bytes[i + 1] = jumps ? to - i - 2 & 255 : kind == 9 ? random.nextInt(4) : kind == 1 ? random.nextInt(13)
                    : kind == 4 || kind == 5 ? at + random.nextInt(bytes.length) & 255 : 3;
        }
        for (int i = 0; i < bytes.length; i++) {
            call("write", at + i & 255, bytes[i]);
        }
        call("make");
    }

    private void call(String name, int... v) {
        call = name + java.util.Arrays.toString(v);
        long w = name.equals("put") ? word() : 0;
        made++;
        String got = answer(() -> ofReal(name, w, v));
        String want = answer(() -> ofModel(name, w, v));
        if (!got.equals(want)) {
            due.answer(call + " w " + w + ": " + got + " in place of " + want, 1, 0);
        }
        if (name.equals("run")) {
            note("answer " + want, true);
            note("drop in a run", model.ran[5] > 0);
            note("by members and walked", model.ran[3] > 0 && model.ran[4] > 0);
        }
        note("back", (name.equals("undo") || name.equals("restore")) && want.length() > 2 && !want.startsWith("-"));
        note("drop of two", name.equals("put") && want.equals("2"));
    }

    private static String answer(Due.Call made) {
        try {
            return String.valueOf(made.answer());
        } catch (RuntimeException e) {
            return e.getClass().getName();
        }
    }

    private void someQuestions(int seed) {
        if (call.startsWith("run") && random.nextInt(2) == 0) {
            askRan(seed);
        }
        int what = random.nextInt(9);
        same(seed, "count", what, real.count(what), model.count(what));
        int place = random.nextInt(40);
        same(seed, "read", place, real.read(place), model.read(place));
        if (!model.stories.isEmpty()) {
            int r = random.nextInt(model.stories.size());
            int of = random.nextInt(7);
            same(seed, MEMBER_OF[r], of, real.member(r, of), model.member(r, of));
        }
    }

    private void askRan(int seed) {
        for (int what = 0; what < 9; what++) {
            same(seed, "ran", what, real.ran(what), model.ran(what));
        }
    }

    private void everything(int seed) {
        askRan(seed);
        for (int what = 0; what < 9; what++) {
            same(seed, "count", what, real.count(what), model.count(what));
        }
        for (int r = 0; r < model.stories.size(); r++) {
            for (int what = 0; what < 7; what++) {
                same(seed, MEMBER_OF[r], what, real.member(r, what), model.member(r, what));
            }
        }
        for (int page = 0; page < 16; page++) {
            same(seed, "page", page, real.page(page), model.page(page));
        }
        for (int place = 0; place < 256; place++) {
            same(seed, "read", place, real.read(place), model.read(place));
        }
    }

    // A text is made only for what is wrong: there are some millions of answers.
    private void same(int seed, String what, int of, long got, long want) {
        made++;
        if (got != want) {
            due.answer("run " + seed + " behind " + call + ": " + what + " " + of, got, want);
        }
    }

    private long ofReal(String name, long w, int[] v) {
        return switch (name) {
            case "put" -> real.put(v[0], w, v[1]);
            case "write" -> real.write(v[0], v[1]);
            case "read" -> real.read(v[0]);
            case "routine" -> real.routine(v[0]);
            case "make" -> real.make();
            case "member" -> real.member(v[0], v[1]);
            case "head" -> real.head(v[0], v[1]);
            case "makeable" -> real.makeable(v[0]);
            case "run" -> real.run(v[0], v[1], v[2], v[3]);
            case "ran" -> real.ran(v[0]);
            case "alike" -> real.alike(v[0], v[1], v[2], v[3]);
            case "page" -> real.page(v[0]);
            case "snapshot" -> real.snapshot();
            case "restore" -> real.restore(v[0]);
            case "undo" -> real.undo();
            case "share" -> real.share();
            case "count" -> real.count(v[0]);
            default -> real.clear();
        };
    }

    private long ofModel(String name, long w, int[] v) {
        return switch (name) {
            case "put" -> model.put(v[0], w, v[1]);
            case "write" -> model.write(v[0], v[1]);
            case "read" -> model.read(v[0]);
            case "routine" -> model.routine(v[0]);
            case "make" -> model.make();
            case "member" -> model.member(v[0], v[1]);
            case "head" -> model.head(v[0], v[1]);
            case "makeable" -> model.makeable(v[0]);
            case "run" -> model.run(v[0], v[1], v[2], v[3]);
            case "ran" -> model.ran(v[0]);
            case "alike" -> model.alike(v[0], v[1], v[2], v[3]);
            case "page" -> model.page(v[0]);
            case "snapshot" -> model.snapshot();
            case "restore" -> model.restore(v[0]);
            case "undo" -> model.undo();
            case "share" -> model.share();
            case "count" -> model.count(v[0]);
            default -> model.clear();
        };
    }
}
