/** Every promise by itself, with answers worked out by hand from the document. */
public final class PromiseTest {
    private static final int BAD = -1000000001, NO = -1000000002, FULL = -1000000003, NONE = -1000000005;
    private static final int NOTHING = -1000000011, KIND = -1000000012, INDEX = -1000000013, SIZE = -1000000014;
    private static final int MIN = Integer.MIN_VALUE, MAX = Integer.MAX_VALUE;
    private static final Due due = new Due();

    public static void main(String[] args) {
        leaves();
        vault();
        row();
        texts();
        sheets();
        slots();
        images();
        due.end("PromiseTest");
    }

    private static void leaves() {
        newObject();
        leaf();
        toldKinds();
        toldByTexts();
        as();
        turns();
        set();
        leans();
        deal();
    }

    private static void vault() {
        space();
        ruleAndCare();
        want();
        wantThrows();
        next();
        outAndAt();
        fire();
        seed();
    }

    private static void row() {
        planAndClear();
        runAndWould();
        least();
        leastOfOverfull();
        hold();
        best();
        price();
        means();
        gap();
        gapOfOverfull();
    }

    private static void texts() {
        feedAndTrim();
        text();
        textFaults();
        textNesting();
        textValues();
        textThrows();
        textToldAndWhy();
    }

    private static void sheets() {
        sheet();
        mark();
        pour();
        reads();
        copy();
    }

    private static void slots() {
        lay();
        ask();
        item();
        rest();
    }

    private static void images() {
        tell();
        check();
        checkByLot();
        keepAndBack();
        count();
    }

    /** A leaf of KIND 0 that leans on none. */
    private static int plain(KeptLeaves x, int size, int loss) {
        return x.leaf(0, size, loss, NONE);
    }

    private static KeptLeaves withPlain(int... sizes) {
        KeptLeaves x = new KeptLeaves();
        for (int size : sizes) {
            plain(x, size, 10 * size);
        }
        return x;
    }

    private static int drawn(int[] z) {
        z[0] = z[0] * 1103515245 + 12345;
        return z[0] >>> 8;
    }

    // ---- leaves

    private static void newObject() {
        KeptLeaves x = new KeptLeaves();
        int[] counts = {0, 0, 0, 0, 12, 0, 0, 0, 0, 0, 0, 0, 0, 1};
        for (int i = 0; i < counts.length; i++) {
            due.is("1 count(" + i + ")", x.count(i), counts[i]);
        }
        due.is("1 back", x.back(), NO);
        due.is("1 at", x.at(0), NONE);
        due.is("1 next", x.next(), NONE);
        for (int i = 0; i < 3; i++) {
            due.is("1 why", x.why(i), NONE);
        }
        for (int i = 0; i < 4; i++) {
            due.is("1 pour", x.pour(i), NOTHING);
        }
        for (int i = 0; i < 5; i++) {
            due.is("1 item", x.item(i, 0), NOTHING);
        }
        due.is("1 told", x.told(0, 0), BAD);
        plain(x, 2, 3);
        due.is("1 objects apart", new KeptLeaves().count(0), 0);
    }

    private static void leaf() {
        KeptLeaves x = new KeptLeaves();
        int[][] bad = {{-1, 1, 0, NONE}, {6, 1, 0, NONE}, {0, 0, 0, NONE}, {0, 10, 0, NONE}, {0, 1, -1, NONE},
            {0, 1, 100, NONE}, {0, 1, 0, 0}, {0, 1, 0, -1}, {0, 1, 0, MIN}, {0, 1, 0, MAX}, {MIN, MAX, MIN, MAX}};
        for (int[] b : bad) {
            due.is("2 leaf bad", x.leaf(b[0], b[1], b[2], b[3]), BAD);
        }
        due.is("2 none came", x.count(0), 0);
        due.is("2 first", x.leaf(0, 1, 0, NONE), 0);
        due.is("2 on itself", x.leaf(0, 1, 0, 1), BAD);
        due.is("2 second", x.leaf(5, 9, 99, 0), 1);
        due.is("2 weight", x.told(1, 3), 1);
        due.is("2 leans", x.told(1, 4), 0);
        due.is("2 last", x.told(1, 7), 0);
        due.is("2 times", x.told(1, 8), 0);
        due.is("2 not in the vault", x.told(1, 9), NONE);
        for (int i = 2; i < 8; i++) {
            due.is("2 leaf", x.leaf(i % 6, i, i, i - 1), i);
        }
        due.is("2 full", x.leaf(0, 1, 0, 7), FULL);
        due.is("2 bad ahead of full", x.leaf(0, 1, 0, 8), BAD);
        due.is("2 bad ahead of full", x.leaf(0, 0, 0, NONE), BAD);
        due.is("2 eight", x.count(0), 8);
    }

    private static void toldKinds() {
        int[][] rooms = {{0, 9, 9}, {1, 9, 10}, {2, 9, 5}, {2, 8, 4}, {2, 1, 1}, {3, 9, 5}, {3, 8, 5}, {3, 1, 1}, {4, 9, 6}, {4, 1, 2}, {5, 9, 1}};
        for (int[] r : rooms) {
            KeptLeaves x = new KeptLeaves();
            x.leaf(r[0], r[1], 0, NONE);
            due.is("3 ROOM of " + r[0] + ", " + r[1], x.told(0, 5), r[2]);
        }
        int[][] misses = {{0, 3, 41, 41}, {1, 3, 41, 46}, {2, 3, 41, 20}, {3, 3, 41, 49}, {4, 3, 41, 40}, {5, 3, 41, 41}};
        int[][] worths = {{0, 44}, {1, 54}, {2, 22}, {3, 51}, {4, 23}, {5, 7}};
        for (int[] m : misses) {
            KeptLeaves x = new KeptLeaves();
            x.leaf(m[0], m[1], m[2], NONE);
            due.is("3 MISS of " + m[0], x.told(0, 6), m[3]);
            due.is("3 WORTH of " + m[0], x.told(0, 11), worths[m[0]][1]);
            x.set(0, 2, 9);
            due.is("3 WORTH by WEIGHT of " + m[0], x.told(0, 11), worths[m[0]][1] + (m[0] == 4 ? 8 : 0));
        }
        KeptLeaves x = new KeptLeaves();
        x.leaf(5, 2, 10, NONE);
        x.leaf(0, 2, 10, 0);
        x.leaf(0, 2, 10, 0);
        x.leaf(0, 2, 10, 1);
        due.is("3 MISS of LIST", x.told(0, 6), 12);
        x.leans(3, 0);
        due.is("3 MISS of LIST", x.told(0, 6), 13);
        x.leans(1, NONE);
        due.is("3 MISS of LIST", x.told(0, 6), 12);
        due.is("3 none leans on", x.told(0, 4), NONE);
        due.is("3 bad", x.told(0, 12), BAD);
        due.is("3 bad", x.told(0, -1), BAD);
        due.is("3 bad", x.told(4, 0), BAD);
        due.is("3 bad", x.told(-1, 0), BAD);
        due.is("3 bad", x.told(MIN, MAX), BAD);
        x.want(2);
        x.want(0);
        x.want(2);
        due.is("3 LAST", x.told(2, 7), 3);
        due.is("3 LAST of the one under it", x.told(0, 7), 3);
        due.is("3 TIMES", x.told(2, 8), 2);
        due.is("3 TIMES", x.told(0, 8), 1);
        due.is("3 place", x.told(2, 9), 0);
        due.is("3 place", x.told(0, 9), 1);
        due.is("3 READ", x.told(2, 10), 1);
        x.out(0);
        due.is("3 place", x.told(2, 9), 0);
        due.is("3 not READ", x.told(2, 10), 0);
        due.is("3 not READ", x.told(0, 10), 0);
    }

    private static void toldByTexts() {
        KeptLeaves x = new KeptLeaves();
        for (int kind = 0; kind < 6; kind++) {
            x.leaf(kind, 3, 41, NONE);
        }
        Due.text(x, "room 100");
        int[] most = {9, 10, 5, 5, 6, 1};
        for (int kind = 0; kind < 6; kind++) {
            due.is("3 ROOM, 9 at most, of " + kind, x.told(kind, 5), most[kind]);
        }
        Due.text(x, "room 0 - 5");
        int[] least = {1, 2, 1, 1, 2, 1};
        for (int kind = 0; kind < 6; kind++) {
            due.is("3 ROOM, 1 at least, of " + kind, x.told(kind, 5), least[kind]);
        }
        Due.text(x, "miss 1000");
        int[] missed = {999, 1004, 499, 1007, 998, 999};
        for (int kind = 0; kind < 6; kind++) {
            due.is("3 MISS, 999 at most, of " + kind, x.told(kind, 6), missed[kind]);
        }
        Due.text(x, "miss 0-1");
        int[] none = {0, 5, 0, 8, 0, 0};
        for (int kind = 0; kind < 6; kind++) {
            due.is("3 MISS, 0 at least, of " + kind, x.told(kind, 6), none[kind]);
        }
        due.is("3 SIZE stays", x.told(0, 1), 3);
        due.is("3 LOSS stays", x.told(0, 2), 41);
        due.is("3 WORTH stays", x.told(0, 11), 44);
        Due.text(x, "room n+1");
        Due.text(x, "miss n*100+l*s");
        due.is("3 ROOM by n", x.told(4, 5), 4);
        due.is("3 MISS by n, l, s", x.told(0, 6), 123);
        due.is("3 MISS by n, l, s", x.told(1, 6), 228);
        x.leaf(0, 3, 2, NONE);
        due.is("3 ROOM of one that came later", x.told(6, 5), 7);
        due.is("3 MISS of one that came later", x.told(6, 6), 606);
    }

    private static void as() {
        KeptLeaves x = new KeptLeaves();
        int[] above = {-1, 0, 0, 1, 2, 0};
        for (int kind = 0; kind < 6; kind++) {
            x.leaf(kind, kind + 2, 5, NONE);
        }
        for (int leaf = 0; leaf < 6; leaf++) {
            for (int kind = 0; kind < 6; kind++) {
                boolean is = kind == 0 || kind == leaf || kind == above[leaf];
                due.is("4 as(" + leaf + ", " + kind + ")", x.as(leaf, kind), is ? leaf + 2 : KIND);
            }
        }
        due.is("4 bad", x.as(6, 0), BAD);
        due.is("4 bad", x.as(-1, 0), BAD);
        due.is("4 bad", x.as(0, 6), BAD);
        due.is("4 bad", x.as(0, -1), BAD);
    }

    private static void turns() {
        KeptLeaves x = new KeptLeaves();
        x.leaf(0, 9, 50, NONE);
        due.is("5 turns", x.turns(0, 3), 0);
        due.is("5 turns", x.turns(0, 3), 3);
        due.is("5 KIND", x.told(0, 0), 3);
        due.is("5 ROOM", x.told(0, 5), 5);
        due.is("5 MISS", x.told(0, 6), 64);
        due.is("5 turns", x.turns(0, 5), 3);
        due.is("5 ROOM", x.told(0, 5), 1);
        x.want(0);
        x.space(5);
        due.is("5 turns", x.turns(0, 1), 5);
        due.is("5 none is thrown", x.count(3), 10);
        due.is("5 bad", x.turns(0, -1), BAD);
        due.is("5 bad", x.turns(0, 6), BAD);
        due.is("5 bad", x.turns(1, 0), BAD);
        due.is("5 bad", x.turns(-1, 0), BAD);
        due.is("5 stays", x.told(0, 0), 1);
    }

    private static void set() {
        KeptLeaves x = withPlain(4);
        due.is("6 SIZE", x.set(0, 0, 9), 4);
        due.is("6 SIZE", x.set(0, 0, 1), 9);
        due.is("6 LOSS", x.set(0, 1, 99), 40);
        due.is("6 LOSS", x.set(0, 1, 0), 99);
        due.is("6 WEIGHT", x.set(0, 2, 9), 1);
        due.is("6 WEIGHT", x.set(0, 2, 0), 9);
        int[][] bad = {{0, 0, 0}, {0, 0, 10}, {0, 1, -1}, {0, 1, 100}, {0, 2, -1}, {0, 2, 10}, {0, 3, 1}, {0, -1, 1}, {1, 0, 1}, {-1, 0, 1}};
        for (int[] b : bad) {
            due.is("6 bad", x.set(b[0], b[1], b[2]), BAD);
        }
        due.is("6 ROOM", x.told(0, 5), 1);
        due.is("6 MISS", x.told(0, 6), 0);
        due.is("6 WEIGHT", x.told(0, 3), 0);
    }

    private static void leans() {
        KeptLeaves x = withPlain(1, 1, 1);
        due.is("7 leans", x.leans(2, 1), NONE);
        due.is("7 leans", x.leans(2, 0), 1);
        due.is("7 leans", x.leans(2, NONE), 0);
        due.is("7 leans", x.leans(2, NONE), NONE);
        due.is("7 bad", x.leans(2, 2), BAD);
        due.is("7 bad", x.leans(1, 2), BAD);
        due.is("7 bad", x.leans(1, -1), BAD);
        due.is("7 bad", x.leans(0, 0), BAD);
        due.is("7 bad", x.leans(3, NONE), BAD);
        due.is("7 bad", x.leans(-1, NONE), BAD);
        due.is("7 none on none", x.leans(0, NONE), NONE);
        x.want(2);
        due.is("7 READ", x.told(2, 10), 1);
        x.leans(2, 1);
        due.is("7 not READ", x.told(2, 10), 0);
        x.leans(1, 0);
        x.want(1);
        due.is("7 not READ by the second", x.told(2, 10), 0);
        x.want(0);
        due.is("7 READ by both", x.told(2, 10), 1);
    }

    private static void deal() {
        KeptLeaves x = new KeptLeaves();
        due.is("8 bad", x.deal(0), BAD);
        due.is("8 bad", x.deal(9), BAD);
        due.is("8 bad", x.deal(MIN), BAD);
        due.is("8 no draw", x.count(13), 1);
        x.seed(99);
        x.leaf(1, 5, 5, NONE);
        due.is("8 deal", x.deal(1), 1);
        due.is("8 deal", x.deal(4), 4);
        due.is("8 deal", x.deal(8), 2);
        int[] z = {99};
        for (int i = 1; i < 8; i++) {
            due.is("8 KIND", x.told(i, 0), 0);
            due.is("8 SIZE", x.told(i, 1), 1 + drawn(z) % 9);
            due.is("8 LOSS", x.told(i, 2), drawn(z) % 100);
            int on = drawn(z) % (1 + i);
            due.is("8 LEANS", x.told(i, 4), on == i ? NONE : on);
            due.is("8 WEIGHT", x.told(i, 3), 1);
            due.is("8 ROOM", x.told(i, 5), x.told(i, 1));
        }
        due.is("8 z", x.count(13), z[0]);
        due.is("8 no room", x.deal(3), 0);
        due.is("8 no draws", x.count(13), z[0]);
        due.is("8 bad when full, too", x.deal(9), BAD);
        due.is("8 none in the vault", x.count(1), 0);
    }

    // ---- the vault

    private static void space() {
        KeptLeaves x = withPlain(3, 4, 5);
        due.is("9 bad", x.space(-1), BAD);
        due.is("9 bad", x.space(61), BAD);
        due.is("9 stays", x.count(4), 12);
        x.want(0);
        x.want(1);
        x.want(2);
        due.is("9 FULLNESS", x.count(3), 12);
        due.is("9 just as full", x.space(12), 0);
        due.is("9 one", x.space(11), 1);
        due.is("9 the first", x.count(2), 6);
        due.is("9 more", x.space(60), 0);
        due.is("9 all", x.space(0), 2);
        due.is("9 none", x.count(2), 0);
        due.is("9 SPACE", x.count(4), 0);
        due.is("9 again", x.space(0), 0);
        due.is("9 too small", x.want(0), 0);
        due.is("9 too small", x.count(1), 0);
    }

    private static void ruleAndCare() {
        KeptLeaves x = new KeptLeaves();
        for (int i = 0; i < 5; i++) {
            due.is("10 rule", x.rule(i), i == 0 ? 0 : i - 1);
        }
        due.is("10 bad", x.rule(5), BAD);
        due.is("10 bad", x.rule(-1), BAD);
        due.is("10 stays", x.count(5), 4);
        due.is("11 care", x.care(1), 0);
        due.is("11 care", x.care(1), 1);
        due.is("11 bad", x.care(2), BAD);
        due.is("11 bad", x.care(-1), BAD);
        due.is("11 stays", x.count(6), 1);
        due.is("11 care", x.care(0), 1);
    }

    private static void want() {
        KeptLeaves x = withPlain(3, 4);
        x.leans(1, 0);
        due.is("12 bad", x.want(2), BAD);
        due.is("12 bad", x.want(-1), BAD);
        due.is("12 no TURN", x.count(7), 0);
        due.is("12 not there", x.want(1), 0);
        due.is("12 COST", x.count(8), 40);
        due.is("12 there, not READ", x.want(1), 0);
        due.is("12 COST", x.count(8), 80);
        due.is("12 LAST", x.told(1, 7), 2);
        due.is("12 once", x.count(1), 1);
        due.is("12 not there", x.want(0), 0);
        due.is("12 COST", x.count(8), 110);
        due.is("12 FOUND", x.want(1), 1);
        due.is("12 COST", x.count(8), 110);
        due.is("12 LAST", x.told(1, 7), 4);
        due.is("12 LAST under it", x.told(0, 7), 4);
        due.is("12 TIMES", x.told(1, 8), 3);
        due.is("12 TIMES under it", x.told(0, 8), 1);
        due.is("12 FOUND", x.want(0), 1);
        due.is("12 LAST stays", x.told(1, 7), 4);
        due.is("12 LAST", x.told(0, 7), 5);
        due.is("12 TURN", x.count(7), 5);
        x.space(0);
        x.space(3);
        due.is("12 as large as SPACE", x.want(0), 0);
        due.is("12 as large as SPACE", x.want(0), 1);
        x.space(2);
        due.is("12 above SPACE", x.want(0), 0);
        due.is("12 stays out", x.count(1), 0);
        due.is("12 LAST stays", x.told(0, 7), 7);
        due.is("12 TIMES", x.told(0, 8), 5);
        due.is("12 COST", x.count(8), 170);
    }

    /** A vault that is full with 0, 1, 2, in that order; 1 was asked for most, 0 last. */
    private static KeptLeaves fullVault() {
        KeptLeaves x = withPlain(4, 4, 4, 4);
        int[] asked = {0, 1, 2, 1, 1, 2, 0, 0};
        for (int leaf : asked) {
            x.want(leaf);
        }
        return x;
    }

    private static void wantThrows() {
        int[] due0 = {0, 1, 2};
        for (int rule = 0; rule < 3; rule++) {
            KeptLeaves x = fullVault();
            x.rule(rule);
            due.is("12 next by rule " + rule, x.next(), due0[rule]);
            due.is("12 throws", x.want(3), 0);
            due.is("12 thrown by rule " + rule, x.told(due0[rule], 9), NONE);
            due.is("12 came last", x.at(2), 3);
            due.is("12 as many", x.count(1), 3);
        }
        for (int z = 0; z < 30; z++) {
            KeptLeaves x = fullVault();
            x.rule(3);
            x.seed(z);
            int[] own = {z};
            int thrown = drawn(own) % 3;
            due.is("12 next by lot", x.next(), thrown);
            due.is("12 z stays", x.count(13), z);
            x.want(3);
            due.is("12 thrown by lot", x.told(thrown, 9), NONE);
            due.is("12 z", x.count(13), own[0]);
        }
        KeptLeaves x = withPlain(5, 4, 3, 9);
        x.want(0);
        x.want(1);
        x.want(2);
        x.want(3);
        due.is("12 as many as it needs", x.count(2), 12);
        due.is("12 order", x.at(0), 2);
        x.set(2, 0, 9);
        due.is("12 FOUND in an overfull one", x.want(2), 1);
        due.is("12 none thrown", x.count(3), 18);
        due.is("12 two thrown", x.want(0), 0);
        due.is("12 two thrown", x.count(2), 1);
    }

    private static void next() {
        KeptLeaves x = withPlain(2, 2, 2, 2);
        due.is("13 none", x.next(), NONE);
        x.rule(3);
        due.is("13 none", x.next(), NONE);
        due.is("13 z stays", x.count(13), 1);
        x.rule(0);
        x.leans(2, 0);
        x.leans(3, 1);
        x.want(0);
        x.want(1);
        x.want(2);
        due.is("13 the first", x.next(), 0);
        x.care(1);
        due.is("13 the first with none on it", x.next(), 1);
        x.want(3);
        due.is("13 both have one", x.next(), 2);
        x.out(2);
        due.is("13 none on it any more", x.next(), 0);
        x.rule(1);
        x.want(0);
        due.is("13 the least LAST", x.next(), 3);
        x.rule(2);
        due.is("13 the least TIMES", x.next(), 3);
        x.want(2);
        x.rule(3);
        for (int z = 0; z < 20; z++) {
            x.seed(z);
            int[] own = {z};
            due.is("13 by lot, with care", x.next(), drawn(own) % 2 == 0 ? 3 : 2);
        }
        x.care(0);
        x.rule(4);
        due.is("13 without a text as 0", x.next(), 0);
        due.is("13 nothing changes", x.count(1), 4);
        x.space(7);
        due.is("13 that one", x.told(0, 9), NONE);
    }

    private static void outAndAt() {
        KeptLeaves x = withPlain(2, 2, 2);
        x.want(2);
        x.want(0);
        x.want(1);
        due.is("15 at", x.at(0), 2);
        due.is("15 at", x.at(1), 0);
        due.is("15 at", x.at(2), 1);
        due.is("15 none", x.at(3), NONE);
        due.is("15 none", x.at(MAX), NONE);
        due.is("15 bad", x.at(-1), BAD);
        due.is("15 bad", x.at(MIN), BAD);
        due.is("14 out", x.out(0), 1);
        due.is("14 not in it", x.out(0), 0);
        due.is("14 bad", x.out(3), BAD);
        due.is("14 bad", x.out(-1), BAD);
        due.is("14 order", x.at(1), 1);
        due.is("14 no TURN", x.count(7), 3);
        due.is("14 LAST stays", x.told(0, 7), 2);
        due.is("14 FULLNESS", x.count(3), 4);
        x.want(0);
        due.is("14 comes behind", x.at(2), 0);
    }

    private static void fire() {
        for (int n = 1; n <= 20; n++) {
            KeptLeaves x = withPlain(1, 1, 1, 1, 1, 1);
            for (int i = 0; i < 6; i++) {
                x.want(i);
            }
            x.seed(77 * n);
            int[] z = {77 * n};
            int bits = 63;
            for (int i = 0; i < n; i++) {
                bits &= ~(1 << drawn(z) % 8);
            }
            due.is("16 fire", x.fire(n), 6 - Integer.bitCount(bits));
            due.is("16 what is left", x.count(2), bits);
            due.is("16 z", x.count(13), z[0]);
        }
        KeptLeaves x = new KeptLeaves();
        due.is("16 bad", x.fire(0), BAD);
        due.is("16 bad", x.fire(21), BAD);
        due.is("16 bad", x.fire(-1), BAD);
        due.is("16 z stays", x.count(13), 1);
        due.is("16 none there", x.fire(2), 0);
    }

    private static void seed() {
        KeptLeaves x = new KeptLeaves();
        due.is("17 seed", x.seed(BAD), 1);
        due.is("17 seed", x.seed(MIN), BAD);
        due.is("17 seed", x.seed(0), MIN);
        due.is("17 z", x.count(13), 0);
        x.fire(1);
        due.is("17 a draw", x.count(13), 12345);
    }

    // ---- the row, the best

    private static void planAndClear() {
        KeptLeaves x = withPlain(2, 2);
        due.is("18 bad", x.plan(2), BAD);
        due.is("18 bad", x.plan(-1), BAD);
        for (int i = 1; i <= 24; i++) {
            due.is("18 plan", x.plan(i % 2), i);
        }
        due.is("18 full", x.plan(0), FULL);
        due.is("18 bad ahead of full", x.plan(2), BAD);
        due.is("19 clear", x.clear(), 24);
        due.is("19 clear", x.clear(), 0);
        due.is("19 anew", x.plan(1), 1);
        due.is("18 nothing is asked for", x.count(7), 0);
    }

    private static void runAndWould() {
        KeptLeaves x = withPlain(7, 6, 5);
        due.is("21 none", x.would(), 0);
        due.is("20 no", x.run(1), NO);
        due.is("20 bad", x.run(0), BAD);
        due.is("20 bad", x.run(25), BAD);
        due.is("20 no", x.run(24), NO);
        int[] asked = {0, 1, 1, 2, 0};
        for (int leaf : asked) {
            x.plan(leaf);
        }
        // 0 misses 70, 1 throws 0 and misses 60, then it is found, 2 fits beside it and misses 50, 0 throws 1.
        due.is("21 would", x.would(), 250);
        due.is("21 COST stays", x.count(8), 0);
        due.is("21 TURN stays", x.count(7), 0);
        due.is("21 the vault stays", x.count(2), 0);
        due.is("21 TIMES stay", x.told(0, 8), 0);
        due.is("20 no", x.run(6), NO);
        due.is("20 run", x.run(3), 130);
        due.is("20 the vault", x.count(2), 2);
        due.is("20 the row stays", x.count(9), 5);
        // From here: 0 throws 1: 70; 1 throws 0: 60; found; 2: 50; 0 throws 1: 70.
        due.is("21 would", x.would(), 250);
        due.is("20 run", x.run(5), 250);
        due.is("20 COST", x.count(8), 380);
        due.is("20 TURN", x.count(7), 8);
        due.is("20 the vault", x.count(2), 5);
        x.rule(3);
        int z = x.count(13);
        x.would();
        due.is("21 z stays", x.count(13), z);
    }

    private static void least() {
        KeptLeaves x = withPlain(7, 6, 5);
        due.is("22 bad", x.least(2), BAD);
        due.is("22 bad", x.least(-1), BAD);
        due.is("22 none", x.least(0), 0);
        due.is("22 none", x.least(1), NONE);
        int[] asked = {0, 1, 0, 1, 2, 0};
        for (int leaf : asked) {
            x.plan(leaf);
        }
        // 7 and 5 fit, 7 and 6 don't: 70 + 60 are missed; keeping 0: 60, 50; keeping 1 instead: 70, 50, 70.
        due.is("22 LEAST", x.least(0), 70 + 60 + 60 + 50);
        due.is("22 KEPT", x.least(1), 1);
        x.want(1);
        due.is("22 LEAST", x.least(0), 70 + 60 + 60 + 50);
        due.is("22 KEPT", x.least(1), 1);
        x.clear();
        x.plan(1);
        due.is("22 one", x.least(0), 0);
        due.is("22 the least as bits", x.least(1), 0);
        x.plan(1);
        due.is("22 two", x.least(0), 0);
        due.is("22 it is needed", x.least(1), 2);
        x.clear();
        x.leans(2, 1);
        x.plan(2);
        x.plan(2);
        due.is("22 both are needed", x.least(0), 50);
        due.is("22 both are needed", x.least(1), 6);
        x.space(10);
        due.is("22 both don't fit", x.least(0), 100);
        due.is("22 nothing helps", x.least(1), 0);
        x.space(0);
        x.clear();
        x.plan(0);
        x.plan(0);
        due.is("22 no space", x.least(0), 140);
        due.is("22 no space", x.least(1), 0);
        due.is("22 nothing changes", x.count(7), 1);
    }

    private static void leastOfOverfull() {
        KeptLeaves x = withPlain(4, 4, 4);
        x.want(0);
        x.want(1);
        x.want(2);
        x.set(0, 0, 9);
        x.plan(0);
        x.plan(1);
        x.plan(2);
        due.is("22 all are there", x.would(), 0);
        due.is("22 what is kept must fit", x.least(0), 0);
        due.is("22 what is kept must fit", x.least(1), 6);
        x.plan(0);
        due.is("22 what is kept must fit", x.least(0), 40);
        due.is("22 the lesser bits", x.least(1), 6);
        x.set(0, 1, 99);
        due.is("22 the dearer one", x.least(0), 80);
        due.is("22 the dearer one", x.least(1), 1);
    }

    private static void hold() {
        KeptLeaves x = withPlain(5, 4, 6);
        x.leans(2, 0);
        x.set(1, 2, 3);
        due.is("23 none", x.hold(0), 0);
        due.is("23 one", x.hold(1), 50);
        due.is("23 by WEIGHT", x.hold(2), 120);
        due.is("23 not READ", x.hold(4), 0);
        due.is("23 READ", x.hold(5), 110);
        due.is("23 two", x.hold(3), 170);
        due.is("23 above SPACE", x.hold(7), NO);
        due.is("23 bad", x.hold(8), BAD);
        due.is("23 bad", x.hold(-1), BAD);
        due.is("23 bad", x.hold(MIN), BAD);
        x.space(15);
        due.is("23 just fits", x.hold(7), 230);
        due.is("23 no leaves", new KeptLeaves().hold(0), 0);
        due.is("23 no leaves", new KeptLeaves().hold(1), BAD);
    }

    private static void best() {
        KeptLeaves x = withPlain(5, 4, 6);
        due.is("24 bad", x.best(2), BAD);
        due.is("24 bad", x.best(-1), BAD);
        due.is("24 best", x.best(0), 110);
        due.is("24 best", x.best(1), 5);
        x.leans(2, 1);
        due.is("24 with what it leans on", x.best(0), 100);
        due.is("24 with what it leans on", x.best(1), 6);
        x.set(0, 2, 2);
        due.is("24 by WEIGHT", x.best(0), 140);
        due.is("24 by WEIGHT", x.best(1), 3);
        x.set(0, 2, 0);
        x.set(1, 2, 0);
        x.set(2, 2, 0);
        due.is("24 nothing", x.best(0), 0);
        due.is("24 the least as bits", x.best(1), 0);
        x.set(1, 2, 1);
        due.is("24 the least as bits", x.best(1), 2);
        x.set(0, 2, 1);
        x.space(5);
        due.is("24 just fits", x.best(0), 50);
        due.is("24 just fits", x.best(1), 1);
        x.space(3);
        due.is("24 none fits", x.best(0), 0);
        due.is("24 the vault doesn't matter", x.count(1), 0);
    }

    private static void price() {
        KeptLeaves x = withPlain(5, 4, 6);
        // With all 110 (5 and 6); without 0 40 + 60; without 1 as ever; without 2 50 + 40.
        due.is("25 price", x.price(0), 10);
        due.is("25 price", x.price(1), 0);
        due.is("25 price", x.price(2), 20);
        x.leans(2, 0);
        due.is("25 without what it leans on", x.price(0), 70);
        due.is("25 bad", x.price(3), BAD);
        due.is("25 bad", x.price(-1), BAD);
        due.is("25 bad", new KeptLeaves().price(0), BAD);
    }

    private static void means() {
        KeptLeaves x = new KeptLeaves();
        due.is("26 no leaves", x.means(3), 0);
        due.is("26 bad", x.means(0), BAD);
        due.is("26 bad", x.means(4), BAD);
        due.is("26 bad", x.means(MIN), BAD);
        plain(x, 7, 10);
        plain(x, 6, 3);
        x.set(0, 2, 2);
        x.set(1, 2, 5);
        due.is("26 one", x.means(1), 2 * 10 + 5 * 3);
        // Rows 00: 10, 01: 13, 10: 13, 11: 3.
        due.is("26 two", x.means(2), 4 * 10 + 10 * 13 + 10 * 13 + 25 * 3);
        // 000: 10, 001: 13, 010: 23, 011: 13, 100: 13, 101: 16, 110: 13, 111: 3.
        due.is("26 three", x.means(3), 8 * 10 + 20 * 13 + 20 * 23 + 50 * 13 + 20 * 13 + 50 * 16 + 50 * 13 + 125 * 3);
        x.want(0);
        due.is("26 from now on", x.means(1), 15);
        x.set(1, 2, 0);
        due.is("26 WEIGHT 0", x.means(3), 0);
        due.is("26 nothing changes", x.count(7), 1);
        due.is("26 nothing changes", x.count(8), 10);
    }

    private static void gap() {
        KeptLeaves x = new KeptLeaves();
        due.is("27 no leaves", x.gap(1, 0), NONE);
        due.is("27 bad ahead of none", x.gap(3, 0), BAD);
        due.is("27 bad", x.gap(0, 0), BAD);
        due.is("27 bad", x.gap(1, 2), BAD);
        due.is("27 bad", x.gap(2, -1), BAD);
        plain(x, 7, 10);
        plain(x, 6, 30);
        plain(x, 5, 20);
        due.is("27 one", x.gap(1, 0), 0);
        due.is("27 one", x.gap(1, 1), 0);
        due.is("27 nothing to lose", x.gap(2, 0), 0);
        due.is("27 the first", x.gap(2, 1), 0);
        x.want(1);
        x.want(2);
        // 0 would throw 1 (and fit beside 2): then asking for 1 loses 30.
        due.is("27 how much", x.gap(2, 0), 30);
        due.is("27 the row", x.gap(2, 1), 1);
        x.rule(1);
        x.want(1);
        // Now 2 is thrown by LAST, and 1 too, as 7 and 6 don't fit.
        due.is("27 how much", x.gap(2, 0), 30);
        x.set(1, 2, 0);
        due.is("27 whatever the WEIGHTS", x.gap(2, 1), 1);
        x.set(0, 0, 6);
        // 0 and 1 fit now: 2 alone is thrown.
        due.is("27 how much", x.gap(2, 0), 20);
        due.is("27 the row", x.gap(2, 1), 2);
        due.is("27 nothing changes", x.count(7), 3);
        KeptLeaves y = withPlain(3, 3, 3, 3, 9);
        for (int i = 0; i < 4; i++) {
            y.set(i, 1, 10 + i);
            y.want(i);
        }
        // 4 throws 0, 1 and 2: 12 is lost by the dearest of them.
        due.is("27 how much", y.gap(2, 0), 12);
        due.is("27 the row", y.gap(2, 1), 42);
        y.rule(4);
        Due.text(y, "throw n");
        due.is("27 the row", y.gap(2, 1), 43);
    }

    private static void gapOfOverfull() {
        KeptLeaves x = withPlain(6, 6);
        x.want(0);
        x.want(1);
        x.set(0, 0, 9);
        x.set(1, 0, 9);
        x.set(0, 1, 50);
        x.set(1, 1, 50);
        // All rows are found: one who keeps what fits does so for each row of two, too.
        due.is("27 overfull", x.gap(2, 0), 0);
        KeptLeaves y = withPlain(6);
        y.want(0);
        y.space(8);
        y.set(0, 0, 9);
        // What is there is found twice; one who keeps what fits has it once alone.
        due.is("27 below 0", y.gap(2, 0), -60);
        due.is("27 below 0", y.gap(2, 1), 0);
        due.is("22 what doesn't fit is not kept", plansTwice(y), 60);
    }

    private static int plansTwice(KeptLeaves y) {
        y.plan(0);
        y.plan(0);
        return y.least(0);
    }

    // ---- texts

    private static void feedAndTrim() {
        KeptLeaves x = new KeptLeaves();
        for (int i = 1; i <= 8; i++) {
            due.is("28 feed", x.feed(i, -i, MIN), 12 * i);
        }
        due.is("28 full", x.feed(0, 0, 0), FULL);
        due.is("28 stays", x.count(12), 96);
        due.is("29 bad", x.trim(97), BAD);
        due.is("29 bad", x.trim(-1), BAD);
        due.is("29 trim", x.trim(96), 96);
        due.is("29 trim", x.trim(85), 85);
        due.is("29 cut for good", x.trim(86), BAD);
        due.is("28 full by one", x.feed(0, 0, 0), FULL);
        due.is("29 trim", x.trim(84), 84);
        due.is("28 just fits", x.feed(0, 0, 0), 96);
        due.is("29 trim", x.trim(0), 0);
        due.is("29 trim", x.trim(0), 0);
        // "room n+1", the highest byte first, with a rest that is cut off.
        x.feed(0x726f6f6d, 0x206e2b31, 0x7a7a7a7a);
        x.trim(8);
        due.is("28 the highest first", x.text(), 0);
        plain(x, 5, 5);
        due.is("28 the highest first", x.told(0, 5), 1);
        x.feed(0x726f6f6d, 0x28ff2b31, 0);
        due.is("28 all 8 bits", x.text(), -105);
    }

    private static void text() {
        KeptLeaves x = new KeptLeaves();
        due.is("30 empty", x.text(), -100);
        String[] right = {"room s", "miss l", "throw a", "  room   s  ", "room(s)", "room!s", "throw a*t-r/n", "miss 1|l&n<s",
            "throw (a)", "room 0", "room 9999", "room s<(s<s)", "room s<s&s<s|s=n"};
        for (int i = 0; i < right.length; i++) {
            due.is("30 '" + right[i] + "'", Due.text(x, right[i]), i);
            due.is("30 used up", x.count(12), 0);
        }
        due.is("30 fourteenth", Due.text(x, "throw 1"), 13);
        due.is("30 full", Due.text(x, "throw 1"), FULL);
        due.is("30 used up", x.count(12), 0);
        due.is("30 the fault ahead of full", Due.text(x, "throw x"), -106);
        due.is("30 used up", x.count(12), 0);
        due.is("30 fourteen", x.count(10), 14);
        due.is("30 counts", x.why(2), 13);
    }

    private static void textFaults() {
        Object[][] faults = {{"", 0}, {"   ", 3}, {"s", 0}, {"roo", 0}, {"rooms", 0}, {"roomz", 0}, {"aroom s", 0}, {"boom s", 0}, {"room sz", 5}, {"room 0a", 6}, {"room 9z", 6}, {"room `", 5}, {"room {", 5}, {"room :", 5}, {"Room s", 0}, {"room", 4}, {"room  ", 6},
            {" room", 5}, {"room room", 5}, {"room3", 4}, {"room 3a", 6}, {"room s3", 6}, {"room 3 4", 7}, {"room s s", 7},
            {"room ss", 5}, {"room l", 5}, {"miss a", 5}, {"throw s", 6}, {"throw l", 6}, {"room t", 5}, {"room 12345", 5},
            {"room 00001", 5}, {"room s+", 7}, {"room s+ ", 8}, {"room +s", 5}, {"room s++s", 7}, {"room -1", 5}, {"room s<s<s", 8},
            {"room s=n>2", 8}, {"room s&", 7}, {"room s&&s", 7}, {"room s|*s", 7}, {"room (s", 7}, {"room (s))", 8}, {"room ()", 6},
            {"room s)", 6}, {"room s!", 6}, {"room !", 6}, {"room s!s", 6}, {"room s(s)", 6}, {"room 1.5", 6}, {"room\ts", 4},
            {"room s\t", 6}, {"room S", 5}, {"room s\0", 6}, {"throw a t", 8}, {"miss(l", 6}, {"12 room", 0}, {"(room s)", 0},
            {"room s%2", 6}, {"room 1<=2", 7}, {"room s\u00ff", 6}, {"room 99999+", 5}, {"room s12345", 6}};
        for (Object[] fault : faults) {
            KeptLeaves x = new KeptLeaves();
            due.is("30 '" + fault[0] + "'", Due.text(x, (String) fault[0]), -100 - (int) fault[1]);
            due.is("30 used up", x.count(12), 0);
            due.is("30 no text", x.count(10), 0);
        }
    }

    private static void textNesting() {
        KeptLeaves x = new KeptLeaves();
        due.is("30 eight (", Due.text(x, "room ((((((((s))))))))"), 0);
        due.is("30 nine (", Due.text(x, "room (((((((((s)))))))))"), -113);
        due.is("30 nine ( apart", Due.text(x, "room (s)+(s)+(s)+(s)+(s)+(s)+(s)+(s)+(s)"), 1);
        due.is("30 eight !", Due.text(x, "room !!!!!!!!s"), 2);
        due.is("30 nine !", Due.text(x, "room !!!!!!!!!s"), -113);
        due.is("30 nine ! apart", Due.text(x, "room !s+!s+!s+!s+!s+!s+!s+!s+!s"), 3);
        due.is("30 eight of each", Due.text(x, "room !(!(!(!(!(!(!(!(s))))))))"), 4);
        due.is("30 nine ! through (", Due.text(x, "room !(!(!(!(!(!(!(!(!s))))))))"), -121);
        due.is("30 a ! that is closed", Due.text(x, "room !!!!!!!s+!(!!!!!!!s)"), 5);
        due.is("30 nine (, eight !", Due.text(x, "room !!!!!!!!(((((((((s"), -121);
        String longest = "room 1+(((((((((((";
        due.is("30 the ninth", Due.text(x, longest), -115);
        StringBuilder full = new StringBuilder("room s");
        while (full.length() < 96) {
            full.append("+s");
        }
        due.is("30 96 bytes", Due.text(x, full.toString()), 6);
        due.is("31 as many", x.textTold(6, 1), 46);
    }

    private static void textValues() {
        Object[][] values = {{"7", 7}, {"s", 3}, {"l", 20}, {"n", 0}, {"2+3*4", 14}, {"(2+3)*4", 20}, {"9-3-2", 4}, {"9-(3-2)", 8},
            {"60/4/3", 5}, {"60/(4/3)", 60}, {"7/2", 3}, {"7/0", 0}, {"(0-7)/2+10", 7}, {"2<3", 1}, {"3<3", 0}, {"3=3", 1}, {"3=4", 0},
            {"4>3", 1}, {"3>3", 0}, {"5&6", 1}, {"5&0", 0}, {"0|7", 1}, {"0|0", 0}, {"!0", 1}, {"!5", 0}, {"!!5", 1}, {"!0+5", 6},
            {"!(0+5)", 0}, {"1|0&0", 1}, {"(1|0)&0", 0}, {"1+1=2", 1}, {"2=1+1&3", 1}, {"2*3>5", 1}, {"5+(2<3)", 6}, {"(0-1)<0", 1},
            {"9999*9999*9999>0", 0}, {"0-1|0", 1}, {"1-2&1", 1}, {"12", 12}, {"0012", 12}, {" 3 * ( l - 4 ) ", 48}, {"l*s+n", 60},
            {"1<2+3", 1}, {"10-2*3", 4}, {"10*2-3", 17}, {"3+4/2", 5}, {"1000-1", 999}, {"1000", 999}, {"0-1", 0}, {"!1|1", 1}, {"!(1|1)", 0}, {"4*!0", 4}};
        for (Object[] value : values) {
            KeptLeaves x = new KeptLeaves();
            x.leaf(0, 3, 20, NONE);
            due.is("30 text", Due.text(x, "miss " + value[0]), 0);
            due.is("30 miss " + value[0], x.told(0, 6), (int) value[1]);
        }
        KeptLeaves x = withPlain(3, 3, 3);
        Due.text(x, "room n=1|s>8");
        due.is("30 room", x.told(0, 5), 1);
        Due.text(x, "room (n=1)*5+s");
        due.is("30 room", x.told(0, 5), 3);
        due.is("30 room", x.told(1, 5), 8);
        // 2147483647 wraps: 9999 * 9999 = 99980001, times 22 = 2199560022, as an int -2095407274.
        Due.text(x, "miss (9999*9999*22<0)*7");
        due.is("30 ints wrap", x.told(0, 6), 7);
        // The least int by -1 is itself: 4096 * 4096 * 128 wraps to it.
        Due.text(x, "miss (4096*4096*128/(0-1)<0)*8");
        due.is("30 the least int by -1", x.told(0, 6), 8);
    }

    private static void textThrows() {
        KeptLeaves x = withPlain(2, 4, 3, 3, 9);
        int[] asked = {0, 1, 2, 1, 0, 3, 0};
        for (int leaf : asked) {
            x.want(leaf);
        }
        x.rule(4);
        due.is("30 without a text", x.next(), 0);
        Due.text(x, "throw r");
        due.is("30 by ROOM", x.next(), 1);
        Due.text(x, "throw 9-r");
        due.is("30 by ROOM", x.next(), 0);
        Due.text(x, "throw t");
        due.is("30 by TIMES", x.next(), 0);
        Due.text(x, "throw 0-t");
        due.is("30 by TIMES", x.next(), 2);
        Due.text(x, "throw n");
        due.is("30 by number", x.next(), 3);
        Due.text(x, "throw a");
        due.is("30 by TURN less LAST", x.next(), 2);
        Due.text(x, "throw a=3");
        due.is("30 by TURN less LAST", x.next(), 1);
        Due.text(x, "throw 1");
        due.is("30 of several the first", x.next(), 0);
        Due.text(x, "throw 0-10");
        due.is("30 below 0", x.next(), 0);
        Due.text(x, "throw n");
        x.want(4);
        due.is("30 thrown", x.count(2), 17);
        // In an asking TURN is 1 more already: a is 1 for the one asked for right ahead.
        KeptLeaves y = withPlain(6, 6, 6);
        y.rule(4);
        Due.text(y, "throw a=1");
        y.want(0);
        y.want(1);
        y.want(2);
        due.is("30 a within an asking", y.count(2), 5);
        y.rule(0);
        y.want(1);
        due.is("30 a text without rule 4", y.count(2), 6);
    }

    private static void textToldAndWhy() {
        KeptLeaves x = new KeptLeaves();
        due.is("31 none", x.textTold(0, 0), BAD);
        Due.text(x, "throw a+t*(r-n)/12");
        Due.text(x, "room !!s");
        Due.text(x, "miss 1");
        due.is("31 KEY", x.textTold(0, 0), 2);
        due.is("31 KEY", x.textTold(1, 0), 0);
        due.is("31 KEY", x.textTold(2, 0), 1);
        due.is("31 how many", x.textTold(0, 1), 5);
        due.is("31 how many", x.textTold(1, 1), 1);
        due.is("31 how many", x.textTold(2, 1), 1);
        due.is("31 bad", x.textTold(3, 0), BAD);
        due.is("31 bad", x.textTold(-1, 0), BAD);
        due.is("31 bad", x.textTold(0, 2), BAD);
        due.is("31 bad", x.textTold(0, -1), BAD);
        due.is("32 why", x.why(0), 1);
        due.is("32 why", x.why(1), 2);
        due.is("32 why", x.why(2), 0);
        due.is("32 bad", x.why(3), BAD);
        due.is("32 bad", x.why(-1), BAD);
        Due.text(x, "room 2");
        due.is("32 the last", x.why(0), 3);
        Due.text(x, "room q");
        due.is("32 no text", x.why(0), 3);
        due.is("32 others stay", x.why(1), 2);
    }

    // ---- sheets, slots

    private static void sheet() {
        KeptLeaves x = new KeptLeaves();
        due.is("33 sheet", x.sheet(0, 0, 24), 24);
        due.is("33 sheet", x.sheet(3, 1, 0), 0);
        due.is("33 bad", x.sheet(4, 0, 1), BAD);
        due.is("33 bad", x.sheet(-1, 0, 1), BAD);
        due.is("33 bad", x.sheet(0, 2, 1), BAD);
        due.is("33 bad", x.sheet(0, -2, 1), BAD);
        due.is("33 bad", x.sheet(0, 0, 25), BAD);
        due.is("33 size", x.sheet(0, 1, -1), SIZE);
        due.is("33 size", x.sheet(0, 1, MIN), SIZE);
        due.is("33 bad ahead of size", x.sheet(4, 0, -1), BAD);
        due.is("33 bad ahead of size", x.sheet(0, 5, -1), BAD);
        due.is("33 stays", x.mark(0, 23, 5), 1);
        x.lay(0, 2, 0);
        due.is("33 stays", x.item(0, 23), 5);
        x.mark(0, 0, 6);
        due.is("33 anew", x.sheet(0, 1, 24), 24);
        x.lay(0, 2, 0);
        due.is("33 all 0", x.item(0, 23), 0);
        due.is("33 all 0", x.item(0, 0), 0);
        due.is("33 missing, n any", x.sheet(0, -1, 25), 0);
        due.is("33 missing, n any", x.sheet(1, -1, -7), 0);
        due.is("33 missing", x.pour(0), NOTHING);
        due.is("33 no places", x.mark(3, 0, 1), INDEX);
        due.is("33 no places", x.pour(3), 0);
    }

    private static void mark() {
        KeptLeaves x = new KeptLeaves();
        x.sheet(0, 0, 3);
        x.sheet(1, 1, 3);
        due.is("34 bad", x.mark(4, 0, 0), BAD);
        due.is("34 bad", x.mark(-1, 0, 0), BAD);
        due.is("34 nothing", x.mark(2, -1, NONE), NOTHING);
        due.is("34 index", x.mark(0, 3, NONE), INDEX);
        due.is("34 index", x.mark(0, -1, 0), INDEX);
        due.is("34 index ahead of bad", x.mark(1, 3, 100000), INDEX);
        due.is("34 kind", x.mark(0, 0, NONE), KIND);
        due.is("34 bad", x.mark(1, 0, 100000), BAD);
        due.is("34 bad", x.mark(1, 0, -100000), BAD);
        due.is("34 bad", x.mark(1, 0, BAD), BAD);
        due.is("34 floats", x.mark(1, 0, 99999), 1);
        due.is("34 floats", x.mark(1, 1, -99999), 1);
        due.is("34 no number", x.mark(1, 2, NONE), 1);
        due.is("34 shorts", x.mark(0, 0, 32768), 1);
        due.is("34 shorts", x.mark(0, 1, -65537), 1);
        due.is("34 shorts", x.mark(0, 2, BAD), 1);
        x.lay(0, 2, 0);
        x.lay(1, 2, 1);
        due.is("34 16 bits", x.item(0, 0), -32768);
        due.is("34 16 bits", x.item(0, 1), -1);
        due.is("34 16 bits", x.item(0, 2), (short) BAD);
        due.is("34 floats", x.item(1, 0), 99999);
        due.is("34 floats", x.item(1, 1), -99999);
        due.is("34 no number", x.item(1, 2), KIND);
        x.mark(1, 2, 4);
        x.lay(1, 2, 1);
        due.is("34 a number again", x.item(1, 2), 4);
    }

    private static void pour() {
        KeptLeaves x = withPlain(2, 3);
        due.is("35 bad", x.pour(4), BAD);
        due.is("35 bad", x.pour(-1), BAD);
        due.is("35 nothing", x.pour(0), NOTHING);
        x.sheet(0, 0, 4);
        x.mark(0, 1, 1);
        x.mark(0, 2, -1);
        due.is("35 up to no leaf", x.pour(0), 2);
        x.mark(0, 2, 2);
        due.is("35 up to no leaf", x.pour(0), 2);
        due.is("35 the row", x.count(9), 4);
        // 0, 1, 0, 1: each misses once (20, 30) and both fit.
        due.is("35 the row", x.would(), 50);
        x.sheet(1, 1, 24);
        x.mark(1, 3, NONE);
        due.is("35 up to no number", x.pour(1), 3);
        x.mark(1, 3, 1);
        due.is("35 as there is room", x.pour(1), 17);
        due.is("35 no room", x.pour(1), 0);
        due.is("35 full", x.count(9), 24);
        x.clear();
        due.is("35 all", x.pour(1), 24);
    }

    private static void reads() {
        KeptLeaves x = withPlain(2, 3);
        due.is("36 bad", x.reads(4), BAD);
        due.is("36 bad", x.reads(-1), BAD);
        due.is("36 nothing", x.reads(3), NOTHING);
        x.sheet(0, 0, 2);
        due.is("36 all are", x.reads(0), NONE);
        x.want(1);
        due.is("36 the second", x.reads(0), 1);
        x.mark(0, 1, 1);
        due.is("36 all are", x.reads(0), NONE);
        x.want(0);
        due.is("36 the first", x.reads(0), 0);
        x.sheet(0, 0, 0);
        due.is("36 no places", x.reads(0), NONE);
        x.sheet(1, 1, 4);
        x.mark(1, 0, 1);
        x.mark(1, 1, 1);
        due.is("36 no leaf", x.reads(1), 2);
        x.mark(1, 2, NONE);
        due.is("36 no leaf", x.reads(1), 3);
        x.mark(1, 3, NONE);
        due.is("36 of numbers alone", x.reads(1), NONE);
        x.mark(1, 0, NONE);
        x.mark(1, 1, 9);
        due.is("36 of numbers alone", x.reads(1), 1);
    }

    private static String places(KeptLeaves x, int sheet, int n) {
        StringBuilder row = new StringBuilder();
        x.lay(4, 2, sheet);
        for (int i = 0; i < n; i++) {
            row.append(x.item(4, i) == KIND ? "-" : x.item(4, i) + "");
        }
        return row.toString();
    }

    private static void copy() {
        KeptLeaves x = new KeptLeaves();
        x.sheet(0, 1, 6);
        x.sheet(1, 1, 4);
        x.sheet(2, 0, 6);
        for (int i = 0; i < 6; i++) {
            x.mark(0, i, i == 2 ? NONE : i);
        }
        int[][] bad = {{4, 0, 0, 0, 1}, {-1, 0, 0, 0, 1}, {0, 0, 4, 0, 1}, {0, 0, -1, 0, 1}, {4, 0, 3, 0, 1}};
        for (int[] b : bad) {
            due.is("37 bad", x.copy(b[0], b[1], b[2], b[3], b[4]), BAD);
        }
        due.is("37 nothing", x.copy(0, 9, 3, 9, 9), NOTHING);
        due.is("37 nothing", x.copy(3, 9, 0, 9, 9), NOTHING);
        due.is("37 kind ahead of index", x.copy(0, 9, 2, 9, 9), KIND);
        int[][] index = {{-1, 0, 1}, {0, -1, 1}, {0, 0, -1}, {0, 0, 5}, {3, 0, 4}, {0, 1, 4}, {7, 0, 0}, {0, 5, 0}, {MAX, 0, 1},
            {0, MAX, 1}, {1, 1, MAX}, {MIN, 0, 1}, {0, 0, MIN}, {6, 0, 1}, {0, 4, 1}};
        for (int[] i : index) {
            due.is("37 index", x.copy(0, i[0], 1, i[1], i[2]), INDEX);
        }
        due.holds("37 nothing came", places(x, 1, 4).equals("0000"));
        due.is("37 none, at the end", x.copy(0, 6, 1, 4, 0), 0);
        due.is("37 copy", x.copy(0, 1, 1, 0, 3), 3);
        due.holds("37 as they were", places(x, 1, 4).equals("1-30"));
        due.holds("37 the other stays", places(x, 0, 6).equals("01-345"));
        due.is("37 up", x.copy(0, 0, 0, 2, 4), 4);
        due.holds("37 as they were", places(x, 0, 6).equals("0101-3"));
        due.is("37 down", x.copy(0, 2, 0, 0, 4), 4);
        due.holds("37 as they were", places(x, 0, 6).equals("01-3-3"));
        due.is("37 all", x.copy(0, 0, 0, 0, 6), 6);
    }

    private static void lay() {
        KeptLeaves x = withPlain(2, 3);
        due.is("38 bad", x.lay(5, 0, 0), BAD);
        due.is("38 bad", x.lay(-1, 0, 0), BAD);
        due.is("38 bad", x.lay(0, 4, 0), BAD);
        due.is("38 bad", x.lay(0, -1, 0), BAD);
        due.is("38 bad", x.lay(0, 1, 2), BAD);
        due.is("38 bad", x.lay(0, 1, -1), BAD);
        due.is("38 bad", x.lay(0, 2, 4), BAD);
        due.is("38 bad", x.lay(0, 2, -1), BAD);
        due.is("38 nothing", x.lay(0, 2, 3), NOTHING);
        due.is("38 still nothing", x.ask(0, 0), NOTHING);
        x.sheet(3, 0, 2);
        due.is("38 LEAF", x.lay(0, 1, 1), 0);
        due.is("38 SHEET", x.lay(0, 2, 3), 1);
        due.is("38 number", x.lay(0, 3, MIN), 2);
        due.is("38 nothing", x.lay(0, 0, MAX), 3);
        due.is("38 nothing", x.lay(0, 0, -1), 0);
        x.lay(0, 3, 5);
        due.is("38 refused", x.lay(0, 1, 7), BAD);
        due.is("38 stays", x.rest(0, 10), 5);
        due.is("38 each by itself", x.lay(1, 0, 0), 0);
    }

    private static void ask() {
        KeptLeaves x = new KeptLeaves();
        int[] above = {-1, 0, 0, 1, 2, 0};
        int[] worth = {43, 53, 21, 50, 22, 7};
        for (int kind = 0; kind < 6; kind++) {
            x.leaf(kind, 3, 40, NONE);
        }
        for (int leaf = 0; leaf < 6; leaf++) {
            x.lay(0, 1, leaf);
            for (int kind = 0; kind < 6; kind++) {
                boolean is = kind == 0 || kind == leaf || kind == above[leaf];
                due.is("39 ask " + leaf + " as " + kind, x.ask(0, kind), is ? worth[leaf] : KIND);
            }
        }
        due.is("39 bad", x.ask(5, 0), BAD);
        due.is("39 bad", x.ask(-1, 0), BAD);
        due.is("39 bad", x.ask(0, 6), BAD);
        due.is("39 bad", x.ask(0, -1), BAD);
        due.is("39 bad ahead of nothing", x.ask(1, 6), BAD);
        due.is("39 nothing", x.ask(1, 0), NOTHING);
        x.lay(1, 3, 4);
        due.is("39 a number", x.ask(1, 0), KIND);
        x.sheet(0, 0, 1);
        x.lay(1, 2, 0);
        due.is("39 a sheet", x.ask(1, 0), KIND);
        x.lay(2, 1, 4);
        x.set(4, 0, 9);
        x.set(4, 1, 9);
        x.set(4, 2, 9);
        x.turns(4, 0);
        due.is("39 as it was", x.ask(2, 4), 22);
        x.keep();
        x.back();
        due.is("39 for good", x.ask(2, 2), 22);
    }

    private static void item() {
        KeptLeaves x = withPlain(2);
        due.is("40 bad", x.item(5, 0), BAD);
        due.is("40 bad", x.item(-1, 0), BAD);
        due.is("40 nothing", x.item(0, -1), NOTHING);
        x.lay(0, 1, 0);
        due.is("40 a leaf", x.item(0, -1), KIND);
        x.lay(0, 3, 0);
        due.is("40 a number", x.item(0, 0), KIND);
        x.sheet(0, 1, 2);
        x.mark(0, 0, 7);
        x.mark(0, 1, NONE);
        x.lay(0, 2, 0);
        due.is("40 item", x.item(0, 0), 7);
        due.is("40 no number", x.item(0, 1), KIND);
        due.is("40 index", x.item(0, 2), INDEX);
        due.is("40 index", x.item(0, -1), INDEX);
        x.mark(0, 0, 8);
        x.sheet(0, 0, 5);
        due.is("40 as it was", x.item(0, 0), 7);
        due.is("40 as long as it was", x.item(0, 2), INDEX);
        x.sheet(0, -1, 0);
        due.is("40 a row of its own", x.item(0, 0), 7);
    }

    private static void rest() {
        KeptLeaves x = withPlain(2);
        due.is("41 bad", x.rest(5, 1), BAD);
        due.is("41 bad", x.rest(-1, 0), BAD);
        due.is("41 nothing", x.rest(0, 0), NOTHING);
        x.lay(0, 1, 0);
        due.is("41 a leaf", x.rest(0, 0), KIND);
        x.sheet(0, 0, 1);
        x.lay(0, 2, 0);
        due.is("41 a sheet", x.rest(0, 3), KIND);
        x.lay(0, 3, 17);
        due.is("41 rest", x.rest(0, 5), 2);
        due.is("41 rest", x.rest(0, -5), 2);
        due.is("41 no", x.rest(0, 0), NO);
        x.lay(0, 3, -17);
        due.is("41 towards 0", x.rest(0, 5), -2);
        x.lay(0, 3, MIN);
        due.is("41 the least int", x.rest(0, -1), 0);
        due.is("41 the least int", x.rest(0, MIN), 0);
    }

    // ---- rows, images

    private static void tell() {
        KeptLeaves x = new KeptLeaves();
        for (int i = 1; i <= 60; i++) {
            due.is("42 tell", x.tell(i), i);
        }
        due.is("42 full", x.tell(0), FULL);
        due.is("42 sixty", x.count(11), 60);
        due.is("43 no image", x.check(1), NO);
        due.is("43 none wait then", x.count(11), 0);
        x.tell(1);
        due.is("43 bad", x.check(0), BAD);
        due.is("43 none wait then", x.count(11), 0);
        due.is("43 bad", x.check(31), BAD);
        x.keep();
        x.tell(1);
        due.is("43 no leaves", x.check(1), NO);
        due.is("43 none wait then", x.count(11), 0);
        due.is("43 bad ahead of no", x.check(-1), BAD);
    }

    private static void tellAll(KeptLeaves x, int... numbers) {
        for (int number : numbers) {
            x.tell(number);
        }
    }

    private static void check() {
        KeptLeaves x = withPlain(4);
        x.keep();
        plain(x, 3, 3);
        x.want(0);
        x.seed(5);
        // One leaf in the image: it isn't there, then it is found, whatever is drawn.
        tellAll(x, 0, 1, 1, 1, 1, 1);
        due.is("43 right", x.check(3), 0);
        due.is("43 none wait then", x.count(11), 0);
        tellAll(x, 0, 1, 1, 1, 1, 1);
        due.is("43 again", x.check(3), 0);
        tellAll(x, 0, 1, 1, 1, 1);
        due.is("43 one is missing", x.check(3), 6);
        tellAll(x, 0, 1, 1, 1, 1, 1, 7);
        due.is("43 one too many", x.check(3), 7);
        tellAll(x, 0, 1, 1, 1, 1, 1, 1);
        due.is("43 one too many", x.check(3), 7);
        tellAll(x, 1, 1, 1, 1, 1, 1);
        due.is("43 the first", x.check(3), 1);
        tellAll(x, 0, 0, 1, 1, 1, 1);
        due.is("43 the second", x.check(3), 2);
        tellAll(x, 0, 1, 0, 0, 0, 0);
        due.is("43 the third", x.check(3), 3);
        due.is("43 none", x.check(1), 1);
        due.is("43 the object stays", x.count(7), 1);
        for (int i = 0; i < 60; i++) {
            x.tell(i == 0 ? 0 : 1);
        }
        due.is("43 thirty", x.check(30), 0);
        x.tell(0);
        x.tell(1);
        due.is("43 the rest is missing", x.check(30), 3);
        due.is("43 the image stays", x.back(), 1);
        due.is("43 the image stays", x.count(7), 0);
        due.is("43 z", x.count(13), 1);
    }

    /** The image's rule throws by lot: its draws stand between those for the leaves. */
    private static void checkByLot() {
        KeptLeaves x = withPlain(5, 6, 7);
        x.rule(3);
        x.seed(1234);
        x.keep();
        x.rule(0);
        x.space(60);
        KeptLeaves y = withPlain(5, 6, 7);
        y.rule(3);
        y.seed(1234);
        for (int i = 0; i < 12; i++) {
            int[] z = {y.count(13)};
            int leaf = drawn(z) % 3;
            y.seed(z[0]);
            x.tell(10 * leaf + y.want(leaf));
            x.tell(y.count(2));
        }
        due.is("43 by the image", x.check(12), 0);
    }

    private static void keepAndBack() {
        KeptLeaves x = withPlain(3, 4, 5);
        x.leans(1, 0);
        x.set(0, 2, 7);
        x.want(1);
        x.want(0);
        x.plan(1);
        x.plan(2);
        x.rule(1);
        x.care(1);
        x.space(10);
        x.seed(42);
        Due.text(x, "room s+1");
        due.is("44 keep", x.keep(), 3);
        int[] counts = new int[14];
        for (int i = 0; i < 14; i++) {
            counts[i] = x.count(i);
        }
        for (int again = 0; again < 2; again++) {
            x.leaf(5, 1, 1, 0);
            x.turns(0, 5);
            x.set(2, 0, 9);
            x.set(2, 1, 9);
            x.set(0, 2, 3);
            x.set(1, 0, 9);
            x.leans(1, NONE);
            x.want(2);
            x.want(3);
            x.out(0);
            x.clear();
            x.plan(0);
            x.plan(0);
            x.rule(2);
            x.care(0);
            x.space(60);
            x.seed(9);
            Due.text(x, "room 7");
            Due.text(x, "throw 7");
            x.sheet(0, 0, 3);
            x.lay(0, 3, 8);
            x.tell(4);
            x.feed(1, 2, 3);
            due.is("45 back", x.back(), 3);
            for (int i = 0; i < 14; i++) {
                int stays = i == 11 ? 1 + again : i == 12 ? 12 : counts[i];
                due.is("45 count(" + i + ")", x.count(i), stays);
            }
            // Of 1 and 2 in the row 1 is found, 2 throws both by CARE: it misses 50.
            due.is("45 the row", x.would(), 50);
            due.is("45 KIND", x.told(0, 0), 0);
            due.is("45 SIZE", x.told(2, 1), 5);
            due.is("45 LOSS", x.told(2, 2), 50);
            due.is("45 MISS", x.told(2, 6), 50);
            due.is("45 WEIGHT", x.told(0, 3), 7);
            due.is("45 LEANS", x.told(1, 4), 0);
            due.is("45 ROOM by the text", x.told(1, 5), 5);
            due.is("45 LAST", x.told(0, 7), 2);
            due.is("45 TIMES", x.told(2, 8), 0);
            due.is("45 order", x.at(0), 1);
            due.is("45 order", x.at(1), 0);
            due.is("45 texts that count", x.why(0), 0);
            due.is("45 texts that count", x.why(2), NONE);
            due.is("45 no such text", x.textTold(1, 0), BAD);
            due.is("45 sheets stay", x.pour(0), 3);
            due.is("45 slots stay", x.rest(0, 5), 3);
            x.trim(0);
        }
        x.leaf(0, 1, 1, NONE);
        due.is("44 keep anew", x.keep(), 4);
        x.leaf(0, 1, 1, NONE);
        due.is("45 back", x.back(), 4);
        due.is("44 none", new KeptLeaves().keep(), 0);
    }

    private static void count() {
        KeptLeaves x = withPlain(3, 4, 5);
        x.want(2);
        x.want(0);
        x.plan(1);
        x.tell(1);
        x.tell(2);
        x.feed(1, 2, 3);
        x.rule(3);
        x.care(1);
        int[] counts = {3, 2, 5, 8, 12, 3, 1, 2, 80, 1, 0, 2, 12, 1};
        for (int i = 0; i < 14; i++) {
            due.is("46 count(" + i + ")", x.count(i), counts[i]);
        }
        x.trim(0);
        Due.text(x, "room 9");
        due.is("46 TEXTS", x.count(10), 1);
        due.is("46 FULLNESS by the text", x.count(3), 18);
        due.is("46 bad", x.count(14), BAD);
        due.is("46 bad", x.count(-1), BAD);
        due.is("46 bad", x.count(MIN), BAD);
    }
}
