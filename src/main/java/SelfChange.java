import java.util.Arrays;

/**
 * Stories that change themselves: routines as bytes of a memory, made into members that hold their
 * acts decoded. A byte that becomes another one drops the members that it lies in; what has no
 * member is walked; members come back when their bytes are as they were.
 */
public final class SelfChange {
    public static final int UNKNOWN = -1, OUTSIDE = -2, STATE = -3, FULL = -4, NONE = -5;

    private static final int PLACES = 256;
    private static final int LAST_PLACE = 255;
    private static final int LAST_BYTE = 255;
    private static final int PAGES = 16;
    private static final int PAGE_BITS = 4;
    private static final int MOST_PUT = 8;
    private static final int MOST_ROUTINES = 10;
    private static final int MOST_HEADS = 24;
    private static final int MOST_WITHIN = 6;
    private static final int MOST_STEPS = 400;
    private static final int MOST_SNAPSHOTS = 4;
    private static final int MOST_KEPT = 8;
    private static final int DROPS_FOR_GOOD = 3;
    private static final int BACK_WEIGHT = 100;
    private static final int RAN_OUTSIDE = -2000000002;

    private static final int END = 0, SET = 1, GROW = 2, SWAP = 3, LOAD = 4, STORE = 5, GO = 6;
    private static final int GO_IF_ZERO = 7, GO_IF_LEFT = 8, CALL = 9, LOAD_AT_B = 10;
    private static final int STORE_AT_B = 11, TIMES = 12;

    private static final int GOING_ON = 0, OVER = 1;
    private static final int NO_KIND = -1, NO_ROUTINE = -2, DEEP = -3, SPENT = -4;

    private final Cover cover = new Cover();
    private final Memory memory = new Memory(cover);
    private final Routine[] routines = new Routine[MOST_ROUTINES];
    private final Kept kept = new Kept();
    private final int[][] snapshots = new int[MOST_SNAPSHOTS][PLACES];
    private final Course latest;
    private final Course asThingsAre;
    private final Course walkedAlone;
    // makeable() must not touch the rows of a routine's own members.
    private final Member trial = new Member();
    private int routineCount;
    private int snapshotCount;
    private int madeInAll;
    private int droppedInAll;
    private int backInAll;
    private int byMembersInAll;
    private int walkedInAll;

    public SelfChange() {
        for (int r = 0; r < MOST_ROUTINES; r++) {
            routines[r] = new Routine();
        }
        latest = new Course(memory, routines);
        asThingsAre = new Course(new Memory(cover), routines);
        walkedAlone = new Course(new Memory(cover), routines);
    }

    public int put(int place, long w, int n) {
        if (isNoPlace(place) || n < 1 || n > MOST_PUT) {
            return OUTSIDE;
        }
        beginKeeping();
        for (int i = 0; i < n; i++) {
            memory.become(place + i, (int) (w >>> (8 * (n - 1 - i))) & LAST_BYTE);
        }
        return endKeeping();
    }

    public int write(int place, int v) {
        if (isNoPlace(place) || v < 0 || v > LAST_BYTE) {
            return OUTSIDE;
        }
        beginKeeping();
        memory.become(place, v);
        return endKeeping();
    }

    public int read(int place) throws ArrayIndexOutOfBoundsException {
        if (isNoPlace(place)) {
            throw new ArrayIndexOutOfBoundsException("the place is not 0 .. 255");
        }
        return memory.bytes[place];
    }

    public int routine(int place) {
        if (isNoPlace(place)) {
            return OUTSIDE;
        }
        if (routineCount >= MOST_ROUTINES) {
            return FULL;
        }
        routines[routineCount].begin(place);
        routineCount++;
        return routineCount - 1;
    }

    public int make() {
        int made = 0;
        for (int r = 0; r < routineCount; r++) {
            Routine it = routines[r];
            if (!memory.hasLive(r) && !it.isWalkedForGood() && it.current.fill(memory.bytes, it.place)) {
                giveMember(r);
                made++;
            }
        }
        madeInAll += made;
        return made;
    }

    public int member(int routine, int what) {
        if (isNoRoutine(routine)) {
            return UNKNOWN;
        }
        Routine it = routines[routine];
        boolean live = memory.hasLive(routine);
        switch (what) {
            case 0:
                return live ? 1 : 0;
            case 1:
                return live ? it.current.headCount : 0;
            case 2:
                return live ? it.current.placeCount() : 0;
            case 3:
                return it.drops;
            case 4:
                return it.isWalkedForGood() ? 1 : 0;
            case 5:
                return it.hasAside ? 1 : 0;
            case 6:
                return it.place;
            default:
                return OUTSIDE;
        }
    }

    public int head(int routine, int i) throws NullPointerException, ArrayIndexOutOfBoundsException {
        if (isNoRoutine(routine)) {
            return UNKNOWN;
        }
        if (!memory.hasLive(routine)) {
            throw new NullPointerException("the routine has no member");
        }
        Member it = routines[routine].current;
        if (i < 0 || i >= it.headCount) {
            throw new ArrayIndexOutOfBoundsException("the member has not so many heads");
        }
        return it.heads[i];
    }

    public int makeable(int routine) {
        if (isNoRoutine(routine)) {
            return UNKNOWN;
        }
        return trial.fill(memory.bytes, routines[routine].place) ? 1 : 0;
    }

    public int run(int routine, int a, int b, int steps) {
        int refusal = refusalOfRun(routine, steps);
        if (refusal != 0) {
            return refusal;
        }
        beginKeeping();
        latest.begin(routine, a, b);
        latest.follow(steps, routineCount);
        endKeeping();
        byMembersInAll += latest.byMembers;
        walkedInAll += latest.walked;
        return latest.answer;
    }

    public int ran(int what) {
        switch (what) {
            case 0:
                return latest.a;
            case 1:
                return latest.b;
            case 2:
                return latest.steps();
            case 3:
                return latest.byMembers;
            case 4:
                return latest.walked;
            case 5:
                return latest.dropped;
            case 6:
                return latest.place;
            case 7:
                return latest.deepest;
            case 8:
                return latest.changes;
            default:
                return RAN_OUTSIDE;
        }
    }

    public int alike(int routine, int a, int b, int steps) {
        int refusal = refusalOfRun(routine, steps);
        if (refusal != 0) {
            return refusal;
        }
        asThingsAre.memory.copyFrom(memory, memory.live);
        asThingsAre.begin(routine, a, b);
        asThingsAre.follow(steps, routineCount);
        walkedAlone.memory.copyFrom(memory, 0);
        walkedAlone.begin(routine, a, b);
        walkedAlone.follow(steps, routineCount);
        return asThingsAre.cameToTheSameAs(walkedAlone) ? 1 : 0;
    }

    public int page(int page) {
        if (page < 0 || page >= PAGES) {
            return OUTSIDE;
        }
        return Integer.bitCount(cover.pages[page]);
    }

    public int snapshot() {
        if (snapshotCount >= MOST_SNAPSHOTS) {
            return FULL;
        }
        System.arraycopy(memory.bytes, 0, snapshots[snapshotCount], 0, PLACES);
        snapshotCount++;
        return snapshotCount - 1;
    }

    public int restore(int snapshot) {
        if (snapshot < 0 || snapshot >= snapshotCount) {
            return UNKNOWN;
        }
        return returnTo(snapshots[snapshot]);
    }

    public int undo() {
        if (kept.size == 0) {
            return STATE;
        }
        return returnTo(kept.takeLatest());
    }

    public int share() throws ArithmeticException {
        if (walkedInAll == 0) {
            throw new ArithmeticException("no steps were walked");
        }
        return byMembersInAll / walkedInAll;
    }

    public int count(int what) {
        switch (what) {
            case 0:
                return routineCount;
            case 1:
                return Integer.bitCount(memory.live);
            case 2:
                return snapshotCount;
            case 3:
                return kept.size;
            case 4:
                return memory.looks;
            case 5:
                return madeInAll;
            case 6:
                return droppedInAll;
            case 7:
                return backInAll;
            case 8:
                return countWalkedForGood();
            default:
                return OUTSIDE;
        }
    }

    public int clear() {
        int were = routineCount;
        memory.empty();
        cover.empty();
        kept.empty();
        latest.empty();
        routineCount = 0;
        snapshotCount = 0;
        madeInAll = 0;
        droppedInAll = 0;
        backInAll = 0;
        byMembersInAll = 0;
        walkedInAll = 0;
        return were;
    }

    private static boolean isNoPlace(int place) {
        return place < 0 || place > LAST_PLACE;
    }

    private boolean isNoRoutine(int routine) {
        return routine < 0 || routine >= routineCount;
    }

    private int refusalOfRun(int routine, int steps) {
        if (isNoRoutine(routine)) {
            return UNKNOWN;
        }
        return steps < 1 || steps > MOST_STEPS ? OUTSIDE : 0;
    }

    private void beginKeeping() {
        kept.note(memory.bytes);
        memory.beginChanges();
    }

    private int endKeeping() {
        if (memory.changes > 0) {
            kept.keepNoted();
        }
        return layDroppedAside();
    }

    private int returnTo(int[] row) {
        memory.beginChanges();
        for (int place = 0; place < PLACES; place++) {
            memory.become(place, row[place]);
        }
        int dropped = layDroppedAside();
        return dropped + BACK_WEIGHT * bringBack();
    }

    private int layDroppedAside() {
        int dropped = 0;
        for (int r = 0; r < routineCount; r++) {
            if (memory.wasDropped(r)) {
                cover.mark(r, routines[r].current, false);
                routines[r].layAside();
                dropped++;
            }
        }
        droppedInAll += dropped;
        return dropped;
    }

    private int bringBack() {
        int back = 0;
        for (int r = 0; r < routineCount; r++) {
            if (!memory.hasLive(r) && routines[r].canComeBack(memory.bytes)) {
                routines[r].takeBack();
                giveMember(r);
                back++;
            }
        }
        backInAll += back;
        return back;
    }

    private void giveMember(int r) {
        cover.mark(r, routines[r].current, true);
        memory.live |= 1 << r;
    }

    private int countWalkedForGood() {
        int found = 0;
        for (int r = 0; r < routineCount; r++) {
            if (routines[r].isWalkedForGood()) {
                found++;
            }
        }
        return found;
    }

    private static boolean isKind(int kind) {
        return kind >= END && kind <= TIMES;
    }

    private static boolean hasOperand(int kind) {
        return kind == SET || kind == GROW || kind >= LOAD && kind <= CALL;
    }

    private static int lengthOf(int kind) {
        return hasOperand(kind) ? 2 : 1;
    }

    private static boolean canGoElsewhere(int kind) {
        return kind == GO || kind == GO_IF_ZERO || kind == GO_IF_LEFT;
    }

    /** The acts of a routine, decoded, by rising places; its places and bytes follow from these. */
    private static final class Member {
        final int[] heads = new int[MOST_HEADS];
        final int[] kinds = new int[MOST_HEADS];
        final int[] operands = new int[MOST_HEADS];
        int headCount;

        Member() {
        }

        /** Answers whether the routine at a place can be made; only then are the rows of use. */
        boolean fill(int[] bytes, int start) {
            headCount = 0;
            boolean fits = addHead(start);
            for (int i = 0; i < MOST_HEADS && i < headCount && fits; i++) {
                fits = addHeadsBehind(bytes, heads[i]);
            }
            if (!fits) {
                return false;
            }
            sortHeads();
            decode(bytes);
            return !hasActsThatMeet();
        }

        private boolean addHeadsBehind(int[] bytes, int head) {
            int kind = bytes[head];
            if (!isKind(kind)) {
                return false;
            }
            int behind = head + lengthOf(kind);
            if (kind != END && kind != GO && !addHead(behind)) {
                return false;
            }
            return !canGoElsewhere(kind) || addHead(behind + (byte) bytes[(head + 1) & LAST_PLACE]);
        }

        private boolean addHead(int place) {
            int head = place & LAST_PLACE;
            if (indexOf(head) >= 0) {
                return true;
            }
            if (headCount >= MOST_HEADS) {
                return false;
            }
            heads[headCount] = head;
            headCount++;
            return true;
        }

        private void sortHeads() {
            for (int i = 1; i < headCount; i++) {
                int head = heads[i];
                int at = i;
                while (at > 0 && heads[at - 1] > head) {
                    heads[at] = heads[at - 1];
                    at--;
                }
                heads[at] = head;
            }
        }

        private void decode(int[] bytes) {
            for (int i = 0; i < headCount; i++) {
                kinds[i] = bytes[heads[i]];
                operands[i] = bytes[(heads[i] + 1) & LAST_PLACE];
            }
        }

        /** Acts are of two places at most, so two meet only where one begins at another's operand. */
        private boolean hasActsThatMeet() {
            for (int i = 0; i < headCount; i++) {
                if (hasOperand(kinds[i]) && indexOf((heads[i] + 1) & LAST_PLACE) >= 0) {
                    return true;
                }
            }
            return false;
        }

        int indexOf(int head) {
            for (int i = 0; i < headCount; i++) {
                if (heads[i] == head) {
                    return i;
                }
            }
            return -1;
        }

        int placeCount() {
            int places = 0;
            for (int i = 0; i < headCount; i++) {
                places += lengthOf(kinds[i]);
            }
            return places;
        }

        boolean isAsIn(int[] bytes) {
            for (int i = 0; i < headCount; i++) {
                if (bytes[heads[i]] != kinds[i]) {
                    return false;
                }
                if (hasOperand(kinds[i]) && bytes[(heads[i] + 1) & LAST_PLACE] != operands[i]) {
                    return false;
                }
            }
            return true;
        }
    }

    /** A routine with two sets of rows, for its member and the one aside, that change places. */
    private static final class Routine {
        Member current = new Member();
        Member aside = new Member();
        boolean hasAside;
        int place;
        int drops;

        Routine() {
        }

        void begin(int at) {
            place = at;
            drops = 0;
            hasAside = false;
        }

        boolean isWalkedForGood() {
            return drops >= DROPS_FOR_GOOD;
        }

        void layAside() {
            exchange();
            hasAside = true;
            drops++;
        }

        boolean canComeBack(int[] bytes) {
            return hasAside && !isWalkedForGood() && aside.isAsIn(bytes);
        }

        void takeBack() {
            exchange();
            hasAside = false;
        }

        private void exchange() {
            Member other = current;
            current = aside;
            aside = other;
        }
    }

    /** Of which routines' members (a bit each) a place, and a page, has some place. */
    private static final class Cover {
        final int[] places = new int[PLACES];
        final int[] pages = new int[PAGES];

        Cover() {
        }

        void mark(int r, Member it, boolean has) {
            int others = ~(1 << r);
            int bit = has ? 1 << r : 0;
            for (int i = 0; i < it.headCount; i++) {
                for (int k = 0; k < lengthOf(it.kinds[i]); k++) {
                    int place = (it.heads[i] + k) & LAST_PLACE;
                    int page = place >> PAGE_BITS;
                    places[place] = places[place] & others | bit;
                    pages[page] = pages[page] & others | bit;
                }
            }
        }

        void empty() {
            Arrays.fill(places, 0);
            Arrays.fill(pages, 0);
        }
    }

    /**
     * Bytes, and which routines have a member as they change. The cover is brought up to date only
     * when a call ends, so it holds for the live ones alone: thus alike() can share it.
     */
    private static final class Memory {
        final int[] bytes = new int[PLACES];
        final Cover cover;
        int live;
        int liveBefore;
        int looks;
        int changes;

        Memory(Cover shared) {
            cover = shared;
        }

        void beginChanges() {
            changes = 0;
            liveBefore = live;
        }

        void become(int place, int v) {
            int at = place & LAST_PLACE;
            if (bytes[at] == v) {
                return;
            }
            // The page is looked at before the drop: the members that this byte drops count there.
            if ((cover.pages[at >> PAGE_BITS] & live) != 0) {
                looks++;
            }
            bytes[at] = v;
            changes++;
            live &= ~cover.places[at];
        }

        boolean hasLive(int r) {
            return (live >> r & 1) != 0;
        }

        boolean wasDropped(int r) {
            return ((liveBefore & ~live) >> r & 1) != 0;
        }

        void copyFrom(Memory other, int members) {
            System.arraycopy(other.bytes, 0, bytes, 0, PLACES);
            live = members;
            beginChanges();
        }

        boolean hasSameBytesAs(Memory other) {
            for (int place = 0; place < PLACES; place++) {
                if (bytes[place] != other.bytes[place]) {
                    return false;
                }
            }
            return true;
        }

        void empty() {
            Arrays.fill(bytes, 0);
            live = 0;
            looks = 0;
            beginChanges();
        }
    }

    /** A ring with one row more than it keeps, so that a call that changes nothing costs none. */
    private static final class Kept {
        private static final int ROWS = MOST_KEPT + 1;
        final int[][] rows = new int[ROWS][PLACES];
        int first;
        int size;

        Kept() {
        }

        void note(int[] bytes) {
            System.arraycopy(bytes, 0, rows[(first + size) % ROWS], 0, PLACES);
        }

        void keepNoted() {
            if (size < MOST_KEPT) {
                size++;
            } else {
                first = (first + 1) % ROWS;
            }
        }

        int[] takeLatest() {
            if (size > 0) {
                size--;
            }
            return rows[(first + size) % ROWS];
        }

        void empty() {
            first = 0;
            size = 0;
        }
    }

    /** One run, over a memory of its own or the object's. */
    private static final class Course {
        final Memory memory;
        final Routine[] routines;
        final int[] within = new int[MOST_WITHIN];
        final int[] behindCall = new int[MOST_WITHIN];
        int depth;
        int deepest;
        int a;
        int b;
        int place;
        int kind;
        int operand;
        int byMembers;
        int walked;
        int dropped;
        int changes;
        int answer;

        Course(Memory its, Routine[] all) {
            memory = its;
            routines = all;
        }

        void empty() {
            depth = 0;
            deepest = 0;
            a = 0;
            b = 0;
            place = 0;
            byMembers = 0;
            walked = 0;
            dropped = 0;
            changes = 0;
            answer = GOING_ON;
        }

        void begin(int routine, int startA, int startB) {
            empty();
            a = startA;
            b = startB;
            enter(routine, 0);
        }

        int steps() {
            return byMembers + walked;
        }

        void follow(int most, int known) {
            for (int i = 0; i < most && answer == GOING_ON; i++) {
                step(known);
            }
            if (answer == GOING_ON) {
                answer = SPENT;
            }
            dropped = Integer.bitCount(memory.liveBefore & ~memory.live);
            changes = memory.changes;
        }

        boolean cameToTheSameAs(Course other) {
            return answer == other.answer && a == other.a && b == other.b && steps() == other.steps()
                    && place == other.place && memory.hasSameBytesAs(other.memory);
        }

        private void enter(int routine, int behind) {
            if (depth < MOST_WITHIN) {
                within[depth] = routine;
                behindCall[depth] = behind;
                depth++;
                deepest = Math.max(deepest, depth);
                place = routines[routine].place;
            }
        }

        private void step(int known) {
            boolean byMember = fetchFromMember();
            if (!byMember) {
                kind = memory.bytes[place];
                operand = memory.bytes[(place + 1) & LAST_PLACE];
            }
            if (!isKind(kind)) {
                answer = NO_KIND;
                return;
            }
            if (byMember) {
                byMembers++;
            } else {
                walked++;
            }
            int behind = (place + lengthOf(kind)) & LAST_PLACE;
            if (kind == END) {
                leave();
            } else if (kind == CALL) {
                enterCalled(behind, known);
            } else if (canGoElsewhere(kind)) {
                place = goesElsewhere() ? (behind + (byte) operand) & LAST_PLACE : behind;
            } else {
                doPlainAct();
                place = behind;
            }
        }

        private boolean fetchFromMember() {
            if (depth < 1 || !memory.hasLive(within[depth - 1])) {
                return false;
            }
            Member it = routines[within[depth - 1]].current;
            int i = it.indexOf(place);
            if (i < 0) {
                return false;
            }
            kind = it.kinds[i];
            operand = it.operands[i];
            return true;
        }

        private void leave() {
            if (depth <= 1) {
                answer = OVER;
                return;
            }
            depth--;
            place = behindCall[depth];
        }

        private void enterCalled(int behind, int known) {
            if (depth >= MOST_WITHIN) {
                answer = DEEP;
            } else if (operand >= known) {
                answer = NO_ROUTINE;
            } else {
                enter(operand, behind);
            }
        }

        private boolean goesElsewhere() {
            if (kind == GO_IF_ZERO) {
                return a == 0;
            }
            if (kind == GO_IF_LEFT) {
                b--;
                return b != 0;
            }
            return true;
        }

        private void swap() {
            int other = a;
            a = b;
            b = other;
        }

        private void doPlainAct() {
            switch (kind) {
                case SET:
                    a = (byte) operand;
                    break;
                case GROW:
                    a += (byte) operand;
                    break;
                case SWAP:
                    swap();
                    break;
                case LOAD:
                    a = memory.bytes[operand];
                    break;
                case STORE:
                    memory.become(operand, a & LAST_BYTE);
                    break;
                case LOAD_AT_B:
                    a = memory.bytes[b & LAST_PLACE];
                    break;
                case STORE_AT_B:
                    memory.become(b, a & LAST_BYTE);
                    break;
                case TIMES:
                    a *= b;
                    break;
                default:
                    break;
            }
        }
    }
}
