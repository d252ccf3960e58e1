import java.util.ArrayDeque;
import java.util.ArrayList;
import java.util.Deque;
import java.util.List;
import java.util.Map;
import java.util.TreeMap;
import java.util.TreeSet;

/** The document once more, in its plainest form: every place is sought anew, nothing is prepared. */
final class Model {
    /** A member: its heads, and the bytes at its places. */
    private record Made(TreeSet<Integer> heads, TreeMap<Integer, Integer> bytes) {
    }

    private static final class Story {
        int place;
        int drops;
        Made made;
        Made aside;
    }

    int[] memory = new int[256];
    List<Story> stories = new ArrayList<>();
    List<int[]> snapshots = new ArrayList<>();
    List<int[]> kept = new ArrayList<>();
    long[] ran = new long[9];
    int looks;
    int madeInAll;
    int droppedInAll;
    int backInAll;
    int byMembersInAll;
    int walkedInAll;
    int changed;

    private void set(int place, int v) {
        if (memory[place] == v) {
            return;
        }
        boolean inPage = false;
        for (Story s : stories) {
            if (s.made != null) {
                for (int p : s.made.bytes.keySet()) {
                    inPage |= p / 16 == place / 16;
                }
            }
        }
        looks += inPage ? 1 : 0;
        memory[place] = v;
        changed++;
        for (Story s : stories) {
            if (s.made != null && s.made.bytes.containsKey(place)) {
                s.aside = s.made;
                s.made = null;
                s.drops++;
                droppedInAll++;
            }
        }
    }

    private static int length(int kind) {
        return switch (kind) {
            case 1, 2, 4, 5, 6, 7, 8, 9 -> 2;
            default -> 1;
        };
    }

    private Made tryMake(int start) {
        TreeSet<Integer> heads = new TreeSet<>();
        Deque<Integer> open = new ArrayDeque<>(List.of(start));
        while (!open.isEmpty()) {
            int p = open.pop();
            if (!heads.add(p)) {
                continue;
            }
            int kind = memory[p];
            if (kind > 12) {
                return null;
            }
            int behind = (p + length(kind)) % 256;
            if (kind != 0 && kind != 6) {
                open.push(behind);
            }
            if (kind >= 6 && kind <= 8) {
                open.push(Math.floorMod(behind + (byte) memory[(p + 1) % 256], 256));
            }
        }
        if (heads.size() > 24) {
            return null;
        }
        TreeMap<Integer, Integer> bytes = new TreeMap<>();
        for (int p : heads) {
            for (int i = 0; i < length(memory[p]); i++) {
                int q = (p + i) % 256;
                if (bytes.put(q, memory[q]) != null) {
                    return null;
                }
            }
        }
        return new Made(heads, bytes);
    }

    private boolean known(int r) {
        return r >= 0 && r < stories.size();
    }

    private int keeping(int[] before, int droppedBefore) {
        if (changed > 0) {
            kept.add(before);
            if (kept.size() > 8) {
                kept.remove(0);
            }
        }
        return droppedInAll - droppedBefore;
    }

    long put(int place, long w, int n) {
        if (place < 0 || place > 255 || n < 1 || n > 8) {
            return -2;
        }
        int[] before = memory.clone();
        int droppedBefore = droppedInAll;
        changed = 0;
        for (int i = 0; i < n; i++) {
            set((place + i) % 256, (int) (w >> 8 * (n - i - 1) & 0xFF));
        }
        return keeping(before, droppedBefore);
    }

    long write(int place, int v) {
        return v < 0 || v > 255 ? -2 : put(place, v, 1);
    }

    long read(int place) {
        if (place < 0 || place > 255) {
            throw new ArrayIndexOutOfBoundsException();
        }
        return memory[place];
    }

    long routine(int place) {
        if (place < 0 || place > 255) {
            return -2;
        }
        if (stories.size() == 10) {
            return -4;
        }
        Story s = new Story();
        s.place = place;
        stories.add(s);
        return stories.size() - 1;
    }

    long make() {
        int n = 0;
        for (Story s : stories) {
            if (s.made == null && s.drops < 3) {
                s.made = tryMake(s.place);
                n += s.made != null ? 1 : 0;
            }
        }
        madeInAll += n;
        return n;
    }

    long member(int r, int what) {
        if (!known(r)) {
            return -1;
        }
        Story s = stories.get(r);
        return switch (what) {
            case 0 -> s.made != null ? 1 : 0;
            case 1 -> s.made != null ? s.made.heads.size() : 0;
            case 2 -> s.made != null ? s.made.bytes.size() : 0;
            case 3 -> s.drops;
            case 4 -> s.drops >= 3 ? 1 : 0;
            case 5 -> s.aside != null ? 1 : 0;
            case 6 -> s.place;
            default -> -2;
        };
    }

    long head(int r, int i) {
        if (!known(r)) {
            return -1;
        }
        if (stories.get(r).made == null) {
            throw new NullPointerException();
        }
        List<Integer> heads = new ArrayList<>(stories.get(r).made.heads);
        if (i < 0 || i >= heads.size()) {
            throw new ArrayIndexOutOfBoundsException();
        }
        return heads.get(i);
    }

    long makeable(int r) {
        return !known(r) ? -1 : tryMake(stories.get(r).place) != null ? 1 : 0;
    }

    long run(int r, int a, int b, int steps) {
        if (!known(r)) {
            return -1;
        }
        if (steps < 1 || steps > 400) {
            return -2;
        }
        int[] before = memory.clone();
        int droppedBefore = droppedInAll;
        changed = 0;
        long answer = follow(r, a, b, steps);
        ran[5] = keeping(before, droppedBefore);
        ran[8] = changed;
        byMembersInAll += (int) ran[3];
        walkedInAll += (int) ran[4];
        return answer;
    }

    private long follow(int r, int a, int b, int most) {
        ArrayList<int[]> within = new ArrayList<>();
        within.add(new int[] {r, -1});
        int p = stories.get(r).place;
        int byMembers = 0;
        int walked = 0;
        int deepest = 1;
        int answer = 0;
        while (answer == 0) {
            if (byMembers + walked == most) {
                answer = -4;
                break;
            }
            int kind = memory[p];
            if (kind > 12) {
                answer = -1;
                break;
            }
            int[] top = within.get(within.size() - 1);
            Made made = stories.get(top[0]).made;
            if (made != null && made.heads.contains(p)) {
                byMembers++;
            } else {
                walked++;
            }
            int n = memory[(p + 1) % 256];
            int d = (byte) n;
            int behind = (p + length(kind)) % 256;
            int next = behind;
            int there = Math.floorMod(behind + d, 256);
            int atB = Math.floorMod(b, 256);
            switch (kind) {
                case 0 -> {
                    within.remove(within.size() - 1);
                    answer = within.isEmpty() ? 1 : 0;
                    next = top[1];
                }
                case 1 -> a = d;
                case 2 -> a += d;
                case 3 -> {
                    int old = a;
                    a = b;
                    b = old;
                }
                case 4 -> a = memory[n];
                case 5 -> set(n, Math.floorMod(a, 256));
                case 6 -> next = there;
                case 7 -> next = a == 0 ? there : behind;
                case 8 -> next = --b != 0 ? there : behind;
                case 9 -> {
                    if (within.size() == 6) {
                        answer = -3;
                    } else if (!known(n)) {
                        answer = -2;
                    } else {
                        within.add(new int[] {n, behind});
                        deepest = Math.max(deepest, within.size());
                        next = stories.get(n).place;
                    }
                }
                case 10 -> a = memory[atB];
                case 11 -> set(atB, Math.floorMod(a, 256));
                default -> a = a * b;
            }
            p = answer == 0 ? next : p;
        }
        ran = new long[] {a, b, byMembers + walked, byMembers, walked, 0, p, deepest, 0};
        return answer;
    }

    long ran(int what) {
        return what < 0 || what > 8 ? -2000000002L : ran[what];
    }

    long alike(int r, int a, int b, int steps) {
        if (!known(r)) {
            return -1;
        }
        if (steps < 1 || steps > 400) {
            return -2;
        }
        Model asIs = copy(true);
        Model alone = copy(false);
        boolean same = asIs.run(r, a, b, steps) == alone.run(r, a, b, steps)
                && java.util.Arrays.equals(asIs.memory, alone.memory);
        for (int what : new int[] {0, 1, 2, 6}) {
            same &= asIs.ran[what] == alone.ran[what];
        }
        return same ? 1 : 0;
    }

    private Model copy(boolean withMembers) {
        Model m = new Model();
        m.memory = memory.clone();
        for (Story s : stories) {
            Story t = new Story();
            t.place = s.place;
            t.made = withMembers ? s.made : null;
            m.stories.add(t);
        }
        return m;
    }

    long page(int page) {
        if (page < 0 || page > 15) {
            return -2;
        }
        return stories.stream().filter(s -> s.made != null
                && !s.made.bytes.subMap(page * 16, page * 16 + 16).isEmpty()).count();
    }

    long snapshot() {
        if (snapshots.size() == 4) {
            return -4;
        }
        snapshots.add(memory.clone());
        return snapshots.size() - 1;
    }

    private long becomes(int[] row) {
        int droppedBefore = droppedInAll;
        for (int p = 0; p < 256; p++) {
            set(p, row[p]);
        }
        int back = 0;
        for (Story s : stories) {
            if (s.made == null && s.aside != null && s.drops < 3 && asItWas(s.aside)) {
                s.made = s.aside;
                s.aside = null;
                back++;
            }
        }
        backInAll += back;
        return droppedInAll - droppedBefore + 100L * back;
    }

    private boolean asItWas(Made made) {
        for (Map.Entry<Integer, Integer> at : made.bytes.entrySet()) {
            if (memory[at.getKey()] != at.getValue()) {
                return false;
            }
        }
        return true;
    }

    long restore(int s) {
        return s < 0 || s >= snapshots.size() ? -1 : becomes(snapshots.get(s));
    }

    long undo() {
        return kept.isEmpty() ? -3 : becomes(kept.remove(kept.size() - 1));
    }

    long share() {
        if (walkedInAll == 0) {
            throw new ArithmeticException();
        }
        return byMembersInAll / walkedInAll;
    }

    long count(int what) {
        return switch (what) {
            case 0 -> stories.size();
            case 1 -> stories.stream().filter(s -> s.made != null).count();
            case 2 -> snapshots.size();
            case 3 -> kept.size();
            case 4 -> looks;
            case 5 -> madeInAll;
            case 6 -> droppedInAll;
            case 7 -> backInAll;
            case 8 -> stories.stream().filter(s -> s.drops >= 3).count();
            default -> -2;
        };
    }

    long clear() {
        int were = stories.size();
        memory = new int[256];
        stories.clear();
        snapshots.clear();
        kept.clear();
        ran = new long[9];
        looks = madeInAll = droppedInAll = backInAll = byMembersInAll = walkedInAll = 0;
        return were;
    }
}
