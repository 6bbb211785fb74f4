/**
 * Leaves in a vault of so much space, the rules by which they are thrown, and
 * the least that one who knew all askings would have missed.
 *
 * No call makes an object or an array: all rows are made by the constructor,
 * because all calls of a run share one bounded room.
 */
public final class KeptLeaves {
    public static final int BAD = -1000000001, NO = -1000000002, FULL = -1000000003, NONE = -1000000005, NOTHING = -1000000011, KIND = -1000000012, INDEX = -1000000013, SIZE = -1000000014;

    private static final int MOST_LEAVES = 8;
    private static final int MOST_SETS = 1 << MOST_LEAVES;
    private static final int MOST_SPACE = 60;
    private static final int MOST_ASKINGS = 24;
    private static final int MOST_TEXTS = 14;
    private static final int MOST_BYTES = 96;
    private static final int MOST_PLACES = 24;
    private static final int MOST_WAITING = 60;
    private static final int MOST_TURNS_TOLD = 30;
    private static final int MOST_FIRE = 20;
    private static final int MOST_NESTED = 8;
    private static final int MOST_DIGITS = 4;
    private static final int MOST_FLOAT = 99999;
    private static final int SHEETS = 4;
    private static final int SLOTS = 5;
    private static final int LONGEST_MEANS = 3;
    private static final int LONGEST_GAP = 2;
    private static final int BEYOND_ALL_MISSES = 1 << 29;
    private static final int FAULT_BASE = -100;

    private static final int OLD = 1, COPY = 2, TORN = 3, FADED = 4, LIST = 5;
    private static final int LAST_KIND = 5;
    private static final int[] KIND_ABOVE = {-1, 0, 0, OLD, COPY, 0};

    private static final int RULE_LAST = 1, RULE_TIMES = 2, RULE_LOT = 3, RULE_TEXT = 4;

    private static final int KEY_ROOM = 0, KEY_MISS = 1, KEY_THROW = 2;
    private static final int KEYS = 3;

    private static final int MISSING = -1, SHORTS = 0, FLOATS = 1;
    private static final int HOLDS_NOTHING = 0, HOLDS_LEAF = 1, HOLDS_SHEET = 2, HOLDS_NUMBER = 3;

    private final Texts texts = new Texts();
    private final World live = new World(texts);
    private final World image = new World(texts);
    private final Tape tape = new Tape();
    private final Sets sets = new Sets();
    private final Course[] trials = new Course[LONGEST_MEANS];
    private final int[] trialRow = new int[LONGEST_GAP];
    private final Sheet[] sheets = new Sheet[SHEETS];
    private final Slot[] slots = new Slot[SLOTS];
    private final int[] waiting = new int[MOST_WAITING];
    private int waitingCount;
    private boolean hasImage;

    public KeptLeaves() {
        for (int i = 0; i < LONGEST_MEANS; i++) {
            trials[i] = new Course();
        }
        for (int i = 0; i < SHEETS; i++) {
            sheets[i] = new Sheet();
        }
        for (int i = 0; i < SLOTS; i++) {
            slots[i] = new Slot();
        }
    }

    // ---- leaves

    public int leaf(int kind, int size, int loss, int leans) {
        if (!isKind(kind) || !isSize(size) || !isLoss(loss) || !mayLean(live.leaves.number, leans)) {
            return BAD;
        }
        int made = live.addLeaf(kind, size, loss, leanInside(leans));
        live.weighAll();
        return made;
    }

    public int told(int leaf, int what) {
        if (!isLeaf(leaf)) {
            return BAD;
        }
        Leaves all = live.leaves;
        Course course = live.course;
        switch (what) {
            case 0: return all.kind[leaf];
            case 1: return all.size[leaf];
            case 2: return all.loss[leaf];
            case 3: return all.weight[leaf];
            case 4: return leanOutside(all.lean[leaf]);
            case 5: return all.room[leaf];
            case 6: return all.miss[leaf];
            case 7: return course.last[leaf];
            case 8: return course.times[leaf];
            case 9: return course.placeOf(leaf);
            case 10: return all.isRead(course.bits, leaf) ? 1 : 0;
            case 11: return worthAs(all.kind[leaf], all.size[leaf], all.loss[leaf], all.weight[leaf]);
            default: return BAD;
        }
    }

    public int as(int leaf, int kind) {
        if (!isLeaf(leaf) || !isKind(kind)) {
            return BAD;
        }
        return isUnder(live.leaves.kind[leaf], kind) ? live.leaves.size[leaf] : KIND;
    }

    public int turns(int leaf, int kind) {
        if (!isLeaf(leaf) || !isKind(kind)) {
            return BAD;
        }
        return replace(live.leaves.kind, leaf, kind);
    }

    public int set(int leaf, int what, int v) {
        if (!isLeaf(leaf)) {
            return BAD;
        }
        if (what == 0 && isSize(v)) {
            return replace(live.leaves.size, leaf, v);
        }
        if (what == 1 && isLoss(v)) {
            return replace(live.leaves.loss, leaf, v);
        }
        if (what == 2 && v >= 0 && v <= 9) {
            return replace(live.leaves.weight, leaf, v);
        }
        return BAD;
    }

    public int leans(int leaf, int on) {
        if (!isLeaf(leaf) || !mayLean(leaf, on)) {
            return BAD;
        }
        return leanOutside(replace(live.leaves.lean, leaf, leanInside(on)));
    }

    public int deal(int n) {
        if (n < 1 || n > MOST_LEAVES) {
            return BAD;
        }
        int came = Math.min(n, MOST_LEAVES - live.leaves.number);
        for (int i = 0; i < came; i++) {
            drawLeaf();
        }
        live.weighAll();
        return came;
    }

    // ---- the vault

    public int space(int v) {
        if (v < 0 || v > MOST_SPACE) {
            return BAD;
        }
        live.space = v;
        return live.throwDownTo(live.course, v);
    }

    public int rule(int v) {
        if (v < 0 || v > RULE_TEXT) {
            return BAD;
        }
        int was = live.rule;
        live.rule = v;
        return was;
    }

    public int care(int v) {
        if (v < 0 || v > 1) {
            return BAD;
        }
        int was = live.care;
        live.care = v;
        return was;
    }

    public int want(int leaf) {
        return isLeaf(leaf) ? live.asking(live.course, leaf) : BAD;
    }

    public int next() {
        int z = live.course.z;
        int place = live.thrownPlace(live.course);
        live.course.z = z;
        return live.course.leafAt(place);
    }

    public int out(int leaf) {
        if (!isLeaf(leaf)) {
            return BAD;
        }
        return live.course.leave(leaf) ? 1 : 0;
    }

    public int at(int place) {
        return place < 0 ? BAD : live.course.leafAt(place);
    }

    public int fire(int n) {
        if (n < 1 || n > MOST_FIRE) {
            return BAD;
        }
        int burnt = 0;
        for (int i = 0; i < n; i++) {
            if (live.course.leave(live.course.draw() % MOST_LEAVES)) {
                burnt++;
            }
        }
        return burnt;
    }

    public int seed(int v) {
        int was = live.course.z;
        live.course.z = v;
        return was;
    }

    // ---- the row, the best

    public int plan(int leaf) {
        if (!isLeaf(leaf)) {
            return BAD;
        }
        return live.addAsking(leaf) ? live.askings : FULL;
    }

    public int clear() {
        int had = live.askings;
        live.askings = 0;
        return had;
    }

    public int run(int n) {
        if (n < 1 || n > MOST_ASKINGS) {
            return BAD;
        }
        if (n > live.askings) {
            return NO;
        }
        return live.makeAskings(live.course, live.row, n);
    }

    public int would() {
        Course trial = trials[0];
        trial.becomes(live.course);
        return live.makeAskings(trial, live.row, live.askings);
    }

    public int least(int what) {
        if (what < 0 || what > 1) {
            return BAD;
        }
        sets.fillRooms(live.leaves);
        sets.foresee(live, live.row, live.askings);
        return what == 0 ? sets.least : sets.kept;
    }

    public int hold(int set) {
        if (set < 0 || set >= 1 << live.leaves.number) {
            return BAD;
        }
        return live.leaves.roomsOf(set) > live.space ? NO : live.leaves.heldOf(set);
    }

    public int best(int what) {
        if (what < 0 || what > 1) {
            return BAD;
        }
        sets.fillRooms(live.leaves);
        int set = sets.bestWithout(live, 0);
        return what == 0 ? live.leaves.heldOf(set) : set;
    }

    public int price(int leaf) {
        if (!isLeaf(leaf)) {
            return BAD;
        }
        sets.fillRooms(live.leaves);
        int with = live.leaves.heldOf(sets.bestWithout(live, 0));
        return with - live.leaves.heldOf(sets.bestWithout(live, 1 << leaf));
    }

    public long means(int n) {
        if (n < 1 || n > LONGEST_MEANS) {
            return BAD;
        }
        return meansBehind(live.course, n, 1);
    }

    public int gap(int n, int what) {
        if (n < 1 || n > LONGEST_GAP || what < 0 || what > 1) {
            return BAD;
        }
        int number = live.leaves.number;
        if (number < 1) {
            return NONE;
        }
        sets.fillRooms(live.leaves);
        int rows = n == 1 ? number : number * number;
        int greatest = 0;
        int where = NONE;
        for (int i = 0; i < rows; i++) {
            trialRow[0] = n == 1 ? i : i / number;
            trialRow[1] = i % number;
            trials[0].becomes(live.course);
            sets.foresee(live, trialRow, n);
            int lost = live.makeAskings(trials[0], trialRow, n) - sets.least;
            if (where == NONE || lost > greatest) {
                greatest = lost;
                where = n == 1 ? i : 10 * trialRow[0] + trialRow[1];
            }
        }
        return what == 0 ? greatest : where;
    }

    // ---- texts

    public int feed(int a, int b, int c) {
        if (tape.length + 12 > MOST_BYTES) {
            return FULL;
        }
        tape.addBytes(a);
        tape.addBytes(b);
        tape.addBytes(c);
        return tape.length;
    }

    public int trim(int n) {
        if (n < 0 || n > tape.length) {
            return BAD;
        }
        tape.length = n;
        return n;
    }

    public int text() {
        int fault = tape.parse();
        tape.length = 0;
        if (fault >= 0) {
            return FAULT_BASE - fault;
        }
        if (live.textCount >= MOST_TEXTS) {
            return FULL;
        }
        int number = live.textCount;
        texts.all[number].becomes(tape);
        live.law[tape.key] = number;
        live.textCount = number + 1;
        live.weighAll();
        return number;
    }

    public int textTold(int text, int what) {
        if (text < 0 || text >= live.textCount || what < 0 || what > 1) {
            return BAD;
        }
        return what == 0 ? texts.all[text].key : texts.all[text].tally;
    }

    public int why(int key) {
        return key < 0 || key >= KEYS ? BAD : live.law[key];
    }

    // ---- sheets, slots

    public int sheet(int sheet, int sort, int n) {
        if (!isSheet(sheet) || sort < MISSING || sort > FLOATS) {
            return BAD;
        }
        if (sort == MISSING) {
            sheets[sheet].sort = MISSING;
            return 0;
        }
        if (n > MOST_PLACES) {
            return BAD;
        }
        if (n < 0) {
            return SIZE;
        }
        sheets[sheet].beginAnew(sort, n);
        return n;
    }

    public int mark(int sheet, int place, int v) {
        if (!isSheet(sheet)) {
            return BAD;
        }
        Sheet to = sheets[sheet];
        if (to.sort == MISSING) {
            return NOTHING;
        }
        if (!to.has(place)) {
            return INDEX;
        }
        if (to.sort == SHORTS) {
            if (v == NONE) {
                return KIND;
            }
            to.places[place] = (short) v;
            return 1;
        }
        if (v != NONE && (v < -MOST_FLOAT || v > MOST_FLOAT)) {
            return BAD;
        }
        to.places[place] = v;
        return 1;
    }

    public int pour(int sheet) {
        if (!isSheet(sheet)) {
            return BAD;
        }
        Sheet from = sheets[sheet];
        if (from.sort == MISSING) {
            return NOTHING;
        }
        int came = 0;
        for (int i = 0; i < from.length; i++) {
            if (!isLeaf(from.places[i]) || !live.addAsking(from.places[i])) {
                break;
            }
            came++;
        }
        return came;
    }

    public int reads(int sheet) {
        if (!isSheet(sheet)) {
            return BAD;
        }
        Sheet from = sheets[sheet];
        if (from.sort == MISSING) {
            return NOTHING;
        }
        for (int i = 0; i < from.length; i++) {
            if (from.places[i] != NONE && (!isLeaf(i) || live.course.times[i] != from.places[i])) {
                return i;
            }
        }
        return NONE;
    }

    public int copy(int from, int place, int to, int at, int many) {
        if (!isSheet(from) || !isSheet(to)) {
            return BAD;
        }
        Sheet giver = sheets[from];
        Sheet taker = sheets[to];
        if (giver.sort == MISSING || taker.sort == MISSING) {
            return NOTHING;
        }
        if (giver.sort != taker.sort) {
            return KIND;
        }
        if (!giver.hasStretch(place, many) || !taker.hasStretch(at, many)) {
            return INDEX;
        }
        System.arraycopy(giver.places, place, taker.places, at, many);
        return many;
    }

    public int lay(int slot, int thing, int k) {
        if (!isSlot(slot) || thing < HOLDS_NOTHING || thing > HOLDS_NUMBER) {
            return BAD;
        }
        Slot to = slots[slot];
        int was = to.thing;
        if (thing == HOLDS_LEAF) {
            if (!isLeaf(k)) {
                return BAD;
            }
            to.takeLeaf(live.leaves, k);
        } else if (thing == HOLDS_SHEET) {
            if (!isSheet(k)) {
                return BAD;
            }
            if (sheets[k].sort == MISSING) {
                return NOTHING;
            }
            to.sheet.becomes(sheets[k]);
        } else if (thing == HOLDS_NUMBER) {
            to.number = k;
        }
        to.thing = thing;
        return was;
    }

    public int ask(int slot, int kind) {
        if (!isSlot(slot) || !isKind(kind)) {
            return BAD;
        }
        Slot from = slots[slot];
        if (from.thing == HOLDS_NOTHING) {
            return NOTHING;
        }
        if (from.thing != HOLDS_LEAF || !isUnder(from.kind, kind)) {
            return KIND;
        }
        return worthAs(from.kind, from.size, from.loss, from.weight);
    }

    public int item(int slot, int place) {
        if (!isSlot(slot)) {
            return BAD;
        }
        Slot from = slots[slot];
        if (from.thing == HOLDS_NOTHING) {
            return NOTHING;
        }
        if (from.thing != HOLDS_SHEET) {
            return KIND;
        }
        if (!from.sheet.has(place)) {
            return INDEX;
        }
        int found = from.sheet.places[place];
        return found == NONE ? KIND : found;
    }

    public int rest(int slot, int n) {
        if (!isSlot(slot)) {
            return BAD;
        }
        Slot from = slots[slot];
        if (from.thing == HOLDS_NOTHING) {
            return NOTHING;
        }
        if (from.thing != HOLDS_NUMBER) {
            return KIND;
        }
        return n == 0 ? NO : from.number % n;
    }

    // ---- rows, images

    public int tell(int v) {
        if (waitingCount >= MOST_WAITING) {
            return FULL;
        }
        waiting[waitingCount] = v;
        waitingCount++;
        return waitingCount;
    }

    public int check(int n) {
        int told = waitingCount;
        waitingCount = 0;
        if (n < 1 || n > MOST_TURNS_TOLD) {
            return BAD;
        }
        int number = image.leaves.number;
        if (!hasImage || number < 1) {
            return NO;
        }
        Course trial = trials[0];
        trial.becomes(image.course);
        for (int i = 0; i < n; i++) {
            int leaf = trial.draw() % number;
            int found = image.asking(trial, leaf);
            if (!isWaiting(2 * i, told, 10 * leaf + found)) {
                return 1 + 2 * i;
            }
            if (!isWaiting(2 * i + 1, told, trial.bits)) {
                return 2 + 2 * i;
            }
        }
        return told > 2 * n ? 1 + 2 * n : 0;
    }

    public int keep() {
        image.becomes(live);
        hasImage = true;
        return image.leaves.number;
    }

    public int back() {
        if (!hasImage) {
            return NO;
        }
        live.becomes(image);
        return live.leaves.number;
    }

    public int count(int what) {
        switch (what) {
            case 0: return live.leaves.number;
            case 1: return live.course.inside;
            case 2: return live.course.bits;
            case 3: return live.leaves.roomsOf(live.course.bits);
            case 4: return live.space;
            case 5: return live.rule;
            case 6: return live.care;
            case 7: return live.course.turn;
            case 8: return live.course.cost;
            case 9: return live.askings;
            case 10: return live.textCount;
            case 11: return waitingCount;
            case 12: return tape.length;
            case 13: return live.course.z;
            default: return BAD;
        }
    }

    // ---- what several calls share

    private boolean isLeaf(int leaf) {
        return leaf >= 0 && leaf < live.leaves.number;
    }

    private static boolean isKind(int kind) {
        return kind >= 0 && kind <= LAST_KIND;
    }

    private static boolean isSize(int size) {
        return size >= 1 && size <= 9;
    }

    private static boolean isLoss(int loss) {
        return loss >= 0 && loss <= 99;
    }

    private static boolean isSheet(int sheet) {
        return sheet >= 0 && sheet < SHEETS;
    }

    private static boolean isSlot(int slot) {
        return slot >= 0 && slot < SLOTS;
    }

    private static boolean mayLean(int leaf, int on) {
        return on == NONE || on >= 0 && on < leaf;
    }

    private static int leanInside(int on) {
        return on == NONE ? -1 : on;
    }

    private static int leanOutside(int on) {
        return on < 0 ? NONE : on;
    }

    private static boolean isUnder(int kind, int above) {
        int at = kind;
        for (int i = 0; i <= LAST_KIND && at >= 0; i++) {
            if (at == above) {
                return true;
            }
            at = KIND_ABOVE[at];
        }
        return false;
    }

    private int replace(int[] row, int leaf, int v) {
        int was = row[leaf];
        row[leaf] = v;
        live.weighAll();
        return was;
    }

    private void drawLeaf() {
        Course course = live.course;
        int number = live.leaves.number;
        int size = 1 + course.draw() % 9;
        int loss = course.draw() % 100;
        int on = course.draw() % (1 + number);
        live.addLeaf(0, size, loss, on == number ? -1 : on);
    }

    private boolean isWaiting(int place, int told, int due) {
        return place < told && place < MOST_WAITING && waiting[place] == due;
    }

    /** Goes from askings that rows share on to their ends, so that none is made twice. */
    private long meansBehind(Course from, int left, long product) {
        if (left < 1 || left > LONGEST_MEANS) {
            return 0;
        }
        Course trial = trials[left - 1];
        long together = 0;
        for (int leaf = 0; leaf < live.leaves.number; leaf++) {
            long weighed = product * live.leaves.weight[leaf];
            if (weighed != 0) {
                trial.becomes(from);
                live.asking(trial, leaf);
                together += left == 1
                    ? weighed * (trial.cost - live.course.cost)
                    : meansBehind(trial, left - 1, weighed);
            }
        }
        return together;
    }

    // ---- what the kinds do

    private static int roomAs(int kind, int plain) {
        switch (kind) {
            case OLD: return plain + 1;
            case TORN: return (roomAs(OLD, plain) + 1) / 2;
            case COPY: return (plain + 1) / 2;
            case FADED: return roomAs(COPY, plain) + 1;
            case LIST: return 1;
            default: return plain;
        }
    }

    private static int missAs(int kind, int plain, int size, int leaners) {
        switch (kind) {
            case OLD: return plain + 5;
            case TORN: return missAs(OLD, plain, size, leaners) + size;
            case COPY: return plain / 2;
            case FADED: return 2 * missAs(COPY, plain, size, leaners);
            case LIST: return plain + leaners;
            default: return plain;
        }
    }

    private static int worthAs(int kind, int size, int loss, int weight) {
        int plain = loss + size;
        switch (kind) {
            case OLD: return plain + 10;
            case TORN: return worthAs(OLD, size, loss, weight) - size;
            case COPY: return plain / 2;
            case FADED: return worthAs(COPY, size, loss, weight) + weight;
            case LIST: return 7;
            default: return plain;
        }
    }

    /** What the leaves are, as long as nobody changes them: no asking does. */
    private static final class Leaves {
        final int[] kind = new int[MOST_LEAVES];
        final int[] size = new int[MOST_LEAVES];
        final int[] loss = new int[MOST_LEAVES];
        final int[] weight = new int[MOST_LEAVES];
        final int[] lean = new int[MOST_LEAVES];
        /* These three follow from the others and the texts; askings use them often. */
        final int[] room = new int[MOST_LEAVES];
        final int[] miss = new int[MOST_LEAVES];
        final int[] chain = new int[MOST_LEAVES];
        int number;

        void becomes(Leaves other) {
            copyRow(other.kind, kind);
            copyRow(other.size, size);
            copyRow(other.loss, loss);
            copyRow(other.weight, weight);
            copyRow(other.lean, lean);
            copyRow(other.room, room);
            copyRow(other.miss, miss);
            copyRow(other.chain, chain);
            number = other.number;
        }

        boolean isRead(int set, int leaf) {
            return (set & chain[leaf]) == chain[leaf];
        }

        int leanersOn(int leaf) {
            int found = 0;
            for (int i = 0; i < number; i++) {
                if (lean[i] == leaf) {
                    found++;
                }
            }
            return found;
        }

        int roomsOf(int set) {
            int together = 0;
            for (int i = 0; i < number; i++) {
                if ((set >> i & 1) == 1) {
                    together += room[i];
                }
            }
            return together;
        }

        int heldOf(int set) {
            int together = 0;
            for (int i = 0; i < number; i++) {
                if (isRead(set, i)) {
                    together += weight[i] * miss[i];
                }
            }
            return together;
        }

        /** Those of a set on which none of it leans. */
        int freeOf(int set) {
            int leanedOn = 0;
            for (int i = 0; i < number; i++) {
                if ((set >> i & 1) == 1 && lean[i] >= 0) {
                    leanedOn |= 1 << lean[i];
                }
            }
            return set & ~leanedOn;
        }
    }

    private static void copyRow(int[] from, int[] to) {
        System.arraycopy(from, 0, to, 0, Math.min(from.length, to.length));
    }

    /** What askings change. It is apart, so that askings can be tried on another one. */
    private static final class Course {
        final int[] vault = new int[MOST_LEAVES];
        final int[] last = new int[MOST_LEAVES];
        final int[] times = new int[MOST_LEAVES];
        int inside;
        int bits;
        int turn;
        int cost;
        int z = 1;

        void becomes(Course other) {
            copyRow(other.vault, vault);
            copyRow(other.last, last);
            copyRow(other.times, times);
            inside = other.inside;
            bits = other.bits;
            turn = other.turn;
            cost = other.cost;
            z = other.z;
        }

        int draw() {
            z = z * 1103515245 + 12345;
            return z >>> 8;
        }

        int leafAt(int place) {
            return place < 0 || place >= inside ? NONE : vault[place];
        }

        int placeOf(int leaf) {
            for (int i = 0; i < inside; i++) {
                if (vault[i] == leaf) {
                    return i;
                }
            }
            return NONE;
        }

        void enter(int leaf) {
            if (inside < MOST_LEAVES) {
                vault[inside] = leaf;
                inside++;
                bits |= 1 << leaf;
            }
        }

        boolean leave(int leaf) {
            int place = placeOf(leaf);
            if (place < 0) {
                return false;
            }
            for (int i = place + 1; i < inside; i++) {
                vault[i - 1] = vault[i];
            }
            inside--;
            bits &= ~(1 << leaf);
            return true;
        }
    }

    /** All that an image keeps. */
    private static final class World {
        final Texts texts;
        final Leaves leaves = new Leaves();
        final Course course = new Course();
        final int[] row = new int[MOST_ASKINGS];
        final int[] law = {NONE, NONE, NONE};
        int askings;
        int textCount;
        int space = 12;
        int rule;
        int care;

        World(Texts texts) {
            this.texts = texts;
        }

        /*
         * The texts themselves needn't be copied: their number never falls below
         * that of the image, so that none of the image's is ever written over.
         */
        void becomes(World other) {
            leaves.becomes(other.leaves);
            course.becomes(other.course);
            copyRow(other.row, row);
            copyRow(other.law, law);
            askings = other.askings;
            textCount = other.textCount;
            space = other.space;
            rule = other.rule;
            care = other.care;
        }

        int addLeaf(int kind, int size, int loss, int lean) {
            int made = leaves.number;
            if (made >= MOST_LEAVES) {
                return FULL;
            }
            leaves.kind[made] = kind;
            leaves.size[made] = size;
            leaves.loss[made] = loss;
            leaves.weight[made] = 1;
            leaves.lean[made] = lean;
            leaves.number = made + 1;
            return made;
        }

        void weighAll() {
            for (int i = 0; i < leaves.number; i++) {
                int size = leaves.size[i];
                int loss = leaves.loss[i];
                int on = leaves.lean[i];
                int room = size;
                if (law[KEY_ROOM] != NONE) {
                    room = Math.max(1, Math.min(9, texts.valueOf(law[KEY_ROOM], size, i, 0, 0)));
                }
                int miss = loss;
                if (law[KEY_MISS] != NONE) {
                    miss = Math.max(0, Math.min(999, texts.valueOf(law[KEY_MISS], loss, i, size, 0)));
                }
                leaves.room[i] = roomAs(leaves.kind[i], room);
                leaves.miss[i] = missAs(leaves.kind[i], miss, size, leaves.leanersOn(i));
                leaves.chain[i] = 1 << i | (on < 0 ? 0 : leaves.chain[on]);
            }
        }

        boolean addAsking(int leaf) {
            if (askings >= MOST_ASKINGS) {
                return false;
            }
            row[askings] = leaf;
            askings++;
            return true;
        }

        int makeAskings(Course on, int[] asked, int n) {
            int before = on.cost;
            for (int i = 0; i < n && i < asked.length; i++) {
                asking(on, asked[i]);
            }
            return on.cost - before;
        }

        int asking(Course on, int leaf) {
            on.turn++;
            on.times[leaf]++;
            if (leaves.isRead(on.bits, leaf)) {
                int at = leaf;
                for (int i = 0; i < MOST_LEAVES && at >= 0; i++) {
                    on.last[at] = on.turn;
                    at = leaves.lean[at];
                }
                return 1;
            }
            on.cost += leaves.miss[leaf];
            if ((on.bits >> leaf & 1) == 1) {
                on.last[leaf] = on.turn;
            } else if (leaves.room[leaf] <= space) {
                throwDownTo(on, space - leaves.room[leaf]);
                on.enter(leaf);
                on.last[leaf] = on.turn;
            }
            return 0;
        }

        int throwDownTo(Course on, int most) {
            int thrown = 0;
            for (int i = 0; i < MOST_LEAVES && leaves.roomsOf(on.bits) > most; i++) {
                if (on.leave(on.leafAt(thrownPlace(on)))) {
                    thrown++;
                }
            }
            return thrown;
        }

        int thrownPlace(Course on) {
            int looked = care == 1 ? leaves.freeOf(on.bits) : on.bits;
            int many = Integer.bitCount(looked);
            if (many == 0) {
                return NONE;
            }
            int passed = rule == RULE_LOT ? on.draw() % many : 0;
            int most = 0;
            int found = NONE;
            for (int i = 0; i < on.inside; i++) {
                if ((looked >> on.vault[i] & 1) == 0) {
                    continue;
                }
                if (passed > 0) {
                    passed--;
                    continue;
                }
                int urge = urgeToThrow(on, on.vault[i]);
                if (found == NONE || urge > most) {
                    most = urge;
                    found = i;
                }
            }
            return found;
        }

        /** The leaf with the greatest is thrown; of rules that look at nothing all are the same. */
        private int urgeToThrow(Course on, int leaf) {
            if (rule == RULE_LAST) {
                return -on.last[leaf];
            }
            if (rule == RULE_TIMES) {
                return -on.times[leaf];
            }
            if (rule == RULE_TEXT && law[KEY_THROW] != NONE) {
                int age = on.turn - on.last[leaf];
                return texts.valueOf(law[KEY_THROW], age, on.times[leaf], leaves.room[leaf], leaf);
            }
            return 0;
        }
    }

    /** Answers that look at all sets of leaves; each needs the rooms to be filled for these leaves first. */
    private static final class Sets {
        final int[] rooms = new int[MOST_SETS];
        final int[] missed = new int[MOST_SETS];
        int least;
        int kept;

        void fillRooms(Leaves leaves) {
            rooms[0] = 0;
            for (int leaf = 0; leaf < leaves.number; leaf++) {
                int bit = 1 << leaf;
                for (int set = bit; set < 2 * bit; set++) {
                    rooms[set] = rooms[set - bit] + leaves.room[leaf];
                }
            }
        }

        int bestWithout(World world, int without) {
            int best = 0;
            int most = 0;
            for (int set = 1; set < 1 << world.leaves.number; set++) {
                if ((set & without) == 0 && rooms[set] <= world.space) {
                    int held = world.leaves.heldOf(set);
                    if (held > most) {
                        most = held;
                        best = set;
                    }
                }
            }
            return best;
        }

        /** From the last asking to the first: missed[set] is what is still to be missed by who kept that set. */
        void foresee(World world, int[] row, int n) {
            least = 0;
            kept = NONE;
            if (n < 1 || n > row.length) {
                return;
            }
            int many = 1 << world.leaves.number;
            for (int set = 0; set < many; set++) {
                missed[set] = 0;
            }
            for (int i = n - 1; i > 0; i--) {
                if (i < n - 1) {
                    chooseWithin(world, many);
                }
                missBefore(world.leaves, row[i], many);
            }
            chooseFirst(world, row[0], many);
        }

        /** missed[set] becomes the least of all sets within it that fit; the empty one always does. */
        private void chooseWithin(World world, int many) {
            for (int set = 0; set < many; set++) {
                if (rooms[set] > world.space) {
                    missed[set] = BEYOND_ALL_MISSES;
                }
            }
            for (int leaf = 0; leaf < world.leaves.number; leaf++) {
                int bit = 1 << leaf;
                for (int set = bit; set < many; set++) {
                    if ((set & bit) != 0) {
                        missed[set] = Math.min(missed[set], missed[set - bit]);
                    }
                }
            }
        }

        /* Upwards: what is read at set | bit must not be written yet. */
        private void missBefore(Leaves leaves, int leaf, int many) {
            int bit = 1 << leaf;
            int chain = leaves.chain[leaf];
            int miss = leaves.miss[leaf];
            for (int set = 0; set < many; set++) {
                missed[set] = missed[set | bit] + ((set & chain) == chain ? 0 : miss);
            }
        }

        private void chooseFirst(World world, int leaf, int many) {
            int ahead = world.course.bits;
            int within = ahead | 1 << leaf;
            int fewest = BEYOND_ALL_MISSES;
            for (int set = 0; set < many; set++) {
                if ((set & ~within) == 0 && rooms[set] <= world.space && missed[set] < fewest) {
                    fewest = missed[set];
                    kept = set;
                }
            }
            least = fewest + (world.leaves.isRead(ahead, leaf) ? 0 : world.leaves.miss[leaf]);
        }
    }

    /** A text, its parts in the order in which they are worked out. */
    private static final class Text {
        final int[] code = new int[MOST_BYTES];
        int steps;
        int key;
        int tally;

        void becomes(Tape tape) {
            copyRow(tape.code, code);
            steps = tape.steps;
            key = tape.key;
            tally = tape.tally;
        }
    }

    /* A step of a text's code: what it does, and above these bits a number or the place of a name. */
    private static final int STEP_BITS = 4, STEP_MASK = 15;
    private static final int OR = 0, AND = 1, LESS = 2, EQUAL = 3, MORE = 4, PLUS = 5, MINUS = 6, TIMES = 7, OVER = 8, NOT = 9, GIVE_NUMBER = 10, GIVE_NAME = 11;
    /* The signs of the steps that join two, in the order of their numbers, and how tightly each one binds. */
    private static final String JOINERS = "|&<=>+-*/";
    private static final int[] TIGHTNESS = {0, 1, 2, 2, 2, 3, 3, 4, 4};
    private static final int TEST_TIGHTNESS = 2, PIECE_TIGHTNESS = 5;

    private static final int MOST_NAMES = 4;

    private static final class Texts {
        final Text[] all = new Text[MOST_TEXTS];
        private final int[] stack = new int[MOST_BYTES];
        private final int[] names = new int[MOST_NAMES];

        Texts() {
            for (int i = 0; i < MOST_TEXTS; i++) {
                all[i] = new Text();
            }
        }

        /** The names' values come in the order of the key's letters. */
        int valueOf(int number, int first, int second, int third, int fourth) {
            if (number < 0 || number >= MOST_TEXTS) {
                return 0;
            }
            names[0] = first;
            names[1] = second;
            names[2] = third;
            names[3] = fourth;
            Text law = all[number];
            int top = -1;
            for (int i = 0; i < law.steps; i++) {
                int does = law.code[i] & STEP_MASK;
                int operand = law.code[i] >> STEP_BITS;
                if (does == GIVE_NUMBER) {
                    top++;
                    stack[top] = operand;
                } else if (does == GIVE_NAME && operand < MOST_NAMES) {
                    top++;
                    stack[top] = names[operand];
                } else if (does == NOT && top >= 0) {
                    stack[top] = stack[top] == 0 ? 1 : 0;
                } else if (top >= 1) {
                    top--;
                    stack[top] = join(does, stack[top], stack[top + 1]);
                }
            }
            return stack[0];
        }

        private static int join(int does, int a, int b) {
            switch (does) {
                case OR: return a != 0 || b != 0 ? 1 : 0;
                case AND: return a != 0 && b != 0 ? 1 : 0;
                case LESS: return a < b ? 1 : 0;
                case EQUAL: return a == b ? 1 : 0;
                case MORE: return a > b ? 1 : 0;
                case PLUS: return a + b;
                case MINUS: return a - b;
                case TIMES: return a * b;
                default: return b == 0 ? 0 : a / b;
            }
        }
    }

    private static final int AT_END = 0, AT_LETTERS = 1, AT_DIGITS = 2, AT_SIGN = 3, AT_STUCK = 4;

    /** The tape, and what reading it as a text finds. */
    private static final class Tape {
        final int[] bytes = new int[MOST_BYTES];
        int length;
        final int[] code = new int[MOST_BYTES];
        int steps;
        int key;
        int tally;
        /* The word or sign at which reading stands: its sort, its first byte, the place behind it. */
        private int sort;
        private int from;
        private int behind;
        private int fault;

        void addBytes(int four) {
            for (int shift = 24; shift >= 0 && length < MOST_BYTES; shift -= 8) {
                bytes[length] = four >>> shift & 255;
                length++;
            }
        }

        /** The place of the fault, or -1. */
        int parse() {
            steps = 0;
            tally = 0;
            fault = -1;
            sort = AT_SIGN;
            behind = 0;
            advance();
            key = keyHere();
            if (key < 0) {
                fail();
                return fault;
            }
            advance();
            parseJoined(0, 0, 0);
            if (sort != AT_END) {
                fail();
            }
            return fault;
        }

        /** Only the first fault counts; standing at the end lets no rule go on behind it. */
        private void fail() {
            if (fault < 0) {
                fault = from;
            }
            sort = AT_END;
        }

        private void advance() {
            boolean behindWord = sort == AT_LETTERS || sort == AT_DIGITS;
            int start = behind;
            while (start < length && bytes[start] == ' ') {
                start++;
            }
            boolean touches = behindWord && start == behind;
            from = start;
            behind = start;
            if (start >= length) {
                sort = AT_END;
                return;
            }
            sort = sortOf(bytes[start]);
            behind++;
            if (sort == AT_SIGN) {
                return;
            }
            while (behind < length && sortOf(bytes[behind]) == sort) {
                behind++;
            }
            if (touches) {
                sort = AT_STUCK;
            }
        }

        private static int sortOf(int sign) {
            if (sign >= 'a' && sign <= 'z') {
                return AT_LETTERS;
            }
            return sign >= '0' && sign <= '9' ? AT_DIGITS : AT_SIGN;
        }

        private int keyHere() {
            if (isWord("room")) {
                return KEY_ROOM;
            }
            if (isWord("miss")) {
                return KEY_MISS;
            }
            return isWord("throw") ? KEY_THROW : -1;
        }

        private boolean isWord(String word) {
            if (sort != AT_LETTERS || behind - from != word.length()) {
                return false;
            }
            for (int i = 0; i < word.length(); i++) {
                if (bytes[from + i] != word.charAt(i)) {
                    return false;
                }
            }
            return true;
        }

        private boolean isSign(char sign) {
            return sort == AT_SIGN && bytes[from] == sign;
        }

        private void addStep(int does, int operand) {
            if (steps < MOST_BYTES) {
                code[steps] = operand << STEP_BITS | does;
                steps++;
            }
        }

        /** Which step the sign here would be between two parts, or -1. */
        private int joinerHere() {
            return sort == AT_SIGN ? JOINERS.indexOf((char) bytes[from]) : -1;
        }

        private boolean joinsAt(int tightness) {
            int joiner = joinerHere();
            return joiner >= 0 && TIGHTNESS[joiner] == tightness;
        }

        private void parseJoined(int tightness, int open, int nots) {
            if (tightness >= PIECE_TIGHTNESS) {
                parsePiece(open, nots);
                return;
            }
            parseJoined(tightness + 1, open, nots);
            int most = tightness == TEST_TIGHTNESS ? 1 : MOST_BYTES;
            for (int i = 0; i < most && joinsAt(tightness); i++) {
                int does = joinerHere();
                advance();
                parseJoined(tightness + 1, open, nots);
                addStep(does, 0);
            }
        }

        private void parsePiece(int open, int nots) {
            if (sort == AT_DIGITS && behind - from <= MOST_DIGITS) {
                addGiver(GIVE_NUMBER, numberHere());
            } else if (sort == AT_LETTERS && nameHere() >= 0) {
                addGiver(GIVE_NAME, nameHere());
            } else if (isSign('!') && nots < MOST_NESTED) {
                advance();
                parsePiece(open, nots + 1);
                addStep(NOT, 0);
            } else if (isSign('(') && open < MOST_NESTED) {
                advance();
                parseJoined(0, open + 1, nots);
                if (isSign(')')) {
                    advance();
                } else {
                    fail();
                }
            } else {
                fail();
            }
        }

        private void addGiver(int does, int operand) {
            addStep(does, operand);
            tally++;
            advance();
        }

        private int numberHere() {
            int number = 0;
            for (int i = from; i < behind; i++) {
                number = 10 * number + bytes[i] - '0';
            }
            return number;
        }

        /** The place of a name among its key's, or -1. */
        private int nameHere() {
            if (behind - from != 1) {
                return -1;
            }
            String names = key == KEY_ROOM ? "sn" : key == KEY_MISS ? "lns" : "atrn";
            return names.indexOf((char) bytes[from]);
        }
    }

    private static final class Sheet {
        /* A place that is no number is NONE, which no number in a place can be. */
        final int[] places = new int[MOST_PLACES];
        int sort = MISSING;
        int length;

        void beginAnew(int ofSort, int n) {
            sort = ofSort;
            length = n;
            for (int i = 0; i < n && i < MOST_PLACES; i++) {
                places[i] = 0;
            }
        }

        void becomes(Sheet other) {
            sort = other.sort;
            length = other.length;
            copyRow(other.places, places);
        }

        boolean has(int place) {
            return place >= 0 && place < length;
        }

        boolean hasStretch(int place, int many) {
            return place >= 0 && many >= 0 && many <= length && place <= length - many;
        }
    }

    private static final class Slot {
        final Sheet sheet = new Sheet();
        int thing;
        int number;
        int kind;
        int size;
        int loss;
        int weight;

        void takeLeaf(Leaves leaves, int leaf) {
            kind = leaves.kind[leaf];
            size = leaves.size[leaf];
            loss = leaves.loss[leaf];
            weight = leaves.weight[leaf];
        }
    }
}
