/** Part 1 of the terms, and promises 1 to 8: leaves. */
final class LeafSentences extends Group {
    LeafSentences(Sentences document) {
        super(document);
    }

    @Override
    void all() {
        leaves();
        kinds();
        rooms();
        misses();
        worths();
        newObject();
        leaf();
        told();
        asAndTurns();
        set();
        leans();
        deal();
    }

    private void leaves() {
        part(1);
        says("LEAVES, 8 at most, numbered from 0", x -> {
            for (int i = 0; i < 8; i++) {
                is("leaf " + i, plain(x, 1, 1), i);
            }
            is("a ninth", plain(x, 1, 1), FULL);
            is("a ninth by lot", x.deal(1), 0);
            is("eight", x.count(0), 8);
            is("the last is there", x.told(7, 1), 1);
            is("no ninth", x.told(8, 1), BAD);
        });
        says("each of a SIZE 1 .. 9", x -> {
            is("too small", plain(x, 0, 1), BAD);
            is("too large", plain(x, 10, 1), BAD);
            is("the least", plain(x, 1, 1), 0);
            is("the greatest", plain(x, 9, 1), 1);
            is("becomes too small", x.set(0, 0, 0), BAD);
            is("becomes too large", x.set(0, 0, 10), BAD);
            is("stays", x.told(0, 1), 1);
            is("becomes the greatest", x.set(0, 0, 9), 1);
            is("becomes the least", x.set(0, 0, 1), 9);
        });
        says("a LOSS 0 .. 99", x -> {
            is("too small", plain(x, 1, -1), BAD);
            is("too large", plain(x, 1, 100), BAD);
            is("the least", plain(x, 1, 0), 0);
            is("the greatest", plain(x, 1, 99), 1);
            is("becomes too small", x.set(0, 1, -1), BAD);
            is("becomes too large", x.set(0, 1, 100), BAD);
            is("stays", x.told(0, 2), 0);
            is("becomes the greatest", x.set(0, 1, 99), 0);
            is("becomes the least", x.set(0, 1, 0), 99);
        });
        says("a WEIGHT 0 .. 9 (1 at first)", x -> {
            plain(x, 1, 1);
            x.deal(1);
            is("at first", x.told(0, 3), 1);
            is("at first, by lot", x.told(1, 3), 1);
            is("too small", x.set(0, 2, -1), BAD);
            is("too large", x.set(0, 2, 10), BAD);
            is("the greatest", x.set(0, 2, 9), 1);
            is("the least", x.set(0, 2, 0), 9);
            is("stays", x.told(0, 3), 0);
        });
        says("One LEANS on a LEAF of a lesser number, or on none", x -> {
            is("there is none yet", x.leaf(0, 1, 1, 0), BAD);
            is("on none", x.leaf(0, 1, 1, NONE), 0);
            is("on itself", x.leaf(0, 1, 1, 1), BAD);
            is("on one that is to come", x.leaf(0, 1, 1, 2), BAD);
            is("on one ahead", x.leaf(0, 1, 1, 0), 1);
            is("from now on on itself", x.leans(1, 1), BAD);
            is("of the first one", x.leans(0, 1), BAD);
            is("stays", x.told(1, 4), 0);
            is("from now on on none", x.leans(1, NONE), 0);
            is("on none", x.told(1, 4), NONE);
        });
    }

    private void kinds() {
        says("and of a KIND: 0 LEAF", x -> {
            is("below the first", x.leaf(-1, 1, 1, NONE), BAD);
            is("above the last", x.leaf(6, 1, 1, NONE), BAD);
            for (int kind = 0; kind < 6; kind++) {
                is("leaf of " + kind, x.leaf(kind, 1, 1, NONE), kind);
                is("told of " + kind, x.told(kind, 0), kind);
            }
        });
        says("1 OLD, 2 COPY, 5 LIST, under LEAF", x -> {
            int[] under = {1, 2, 5};
            for (int i = 0; i < 3; i++) {
                x.leaf(under[i], 2 + i, 1, NONE);
                is("as LEAF", x.as(i, 0), 2 + i);
                is("as itself", x.as(i, under[i]), 2 + i);
                is("as the one beside it", x.as(i, under[(i + 1) % 3]), KIND);
                is("as the other one beside it", x.as(i, under[(i + 2) % 3]), KIND);
                is("as TORN", x.as(i, 3), KIND);
                is("as FADED", x.as(i, 4), KIND);
            }
            plain(x, 9, 1);
            for (int kind = 1; kind < 6; kind++) {
                is("a LEAF as " + kind, x.as(3, kind), KIND);
            }
        });
        says("3 TORN, under OLD", x -> {
            x.leaf(3, 7, 1, NONE);
            int[] due = {7, 7, KIND, 7, KIND, KIND};
            for (int kind = 0; kind < 6; kind++) {
                is("as " + kind, x.as(0, kind), due[kind]);
            }
        });
        says("4 FADED, under COPY (all are LEAVES)", x -> {
            x.leaf(4, 7, 1, NONE);
            int[] due = {7, KIND, 7, KIND, 7, KIND};
            for (int kind = 0; kind < 6; kind++) {
                is("as " + kind, x.as(0, kind), due[kind]);
                x.turns(0, kind);
                is(kind + " is a LEAF", x.as(0, 0), 7);
                x.turns(0, 4);
            }
        });
    }

    private static int toldOf(int kind, int size, int loss, int what) {
        KeptLeaves x = new KeptLeaves();
        x.leaf(kind, size, loss, NONE);
        return x.told(0, what);
    }

    private static int toldBy(String text, int kind, int what) {
        KeptLeaves x = new KeptLeaves();
        x.leaf(kind, 4, 40, NONE);
        text(x, text);
        return x.told(0, what);
    }

    private void rooms() {
        says("ROOM: LEAF: what room gives, held within 1 .. 9 (without a TEXT: SIZE)", x -> {
            is("SIZE 1", toldOf(0, 1, 0, 5), 1);
            is("SIZE 9", toldOf(0, 9, 0, 5), 9);
            is("just below", toldBy("room 0", 0, 5), 1);
            is("the least", toldBy("room 1", 0, 5), 1);
            is("above the least", toldBy("room 2", 0, 5), 2);
            is("below the greatest", toldBy("room 8", 0, 5), 8);
            is("the greatest", toldBy("room 9", 0, 5), 9);
            is("just above", toldBy("room 10", 0, 5), 9);
            is("far above", toldBy("room 9999", 0, 5), 9);
            is("below 0", toldBy("room 0-1", 0, 5), 1);
            is("the least int", toldBy("room 4096*4096*128", 0, 5), 1);
            is("the greatest int", toldBy("room 4096*4096*128-1", 0, 5), 9);
            is("a TEXT of another KEY", toldBy("miss 7", 0, 5), 4);
        });
        says("OLD: as LEAF, and 1", x -> {
            is("SIZE 1", toldOf(1, 1, 0, 5), 2);
            is("SIZE 9: above 9", toldOf(1, 9, 0, 5), 10);
            is("held ahead of it", toldBy("room 10", 1, 5), 10);
            is("held ahead of it", toldBy("room 0-9", 1, 5), 2);
        });
        says("TORN: half of as OLD, cut up", x -> {
            int[] due = {1, 2, 2, 3, 3, 4, 4, 5, 5};
            for (int size = 1; size <= 9; size++) {
                is("SIZE " + size, toldOf(3, size, 0, 5), due[size - 1]);
            }
            is("held ahead of it", toldBy("room 99", 3, 5), 5);
        });
        says("COPY: half of as LEAF, cut up", x -> {
            int[] due = {1, 1, 2, 2, 3, 3, 4, 4, 5};
            for (int size = 1; size <= 9; size++) {
                is("SIZE " + size, toldOf(2, size, 0, 5), due[size - 1]);
            }
            is("held ahead of it", toldBy("room 99", 2, 5), 5);
            is("held ahead of it", toldBy("room 0-99", 2, 5), 1);
        });
        says("FADED: as COPY, and 1", x -> {
            int[] due = {2, 2, 3, 3, 4, 4, 5, 5, 6};
            for (int size = 1; size <= 9; size++) {
                is("SIZE " + size, toldOf(4, size, 0, 5), due[size - 1]);
            }
        });
        says("LIST: 1", x -> {
            is("SIZE 1", toldOf(5, 1, 0, 5), 1);
            is("SIZE 9", toldOf(5, 9, 0, 5), 1);
            is("whatever room gives", toldBy("room 8", 5, 5), 1);
        });
    }

    private void misses() {
        says("MISS: LEAF: what miss gives, held within 0 .. 999 (without a TEXT: LOSS)", x -> {
            is("LOSS 0", toldOf(0, 1, 0, 6), 0);
            is("LOSS 99", toldOf(0, 1, 99, 6), 99);
            is("just below", toldBy("miss 0-1", 0, 6), 0);
            is("the least", toldBy("miss 0", 0, 6), 0);
            is("above the least", toldBy("miss 1", 0, 6), 1);
            is("below the greatest", toldBy("miss 998", 0, 6), 998);
            is("the greatest", toldBy("miss 999", 0, 6), 999);
            is("just above", toldBy("miss 1000", 0, 6), 999);
            is("the least int", toldBy("miss 4096*4096*128", 0, 6), 0);
            is("the greatest int", toldBy("miss 4096*4096*128-1", 0, 6), 999);
            is("a TEXT of another KEY", toldBy("room 7", 0, 6), 40);
        });
        says("OLD: as LEAF, and 5", x -> {
            is("LOSS 0", toldOf(1, 1, 0, 6), 5);
            is("LOSS 99", toldOf(1, 1, 99, 6), 104);
            is("held ahead of it", toldBy("miss 1000", 1, 6), 1004);
            is("held ahead of it", toldBy("miss 0-9", 1, 6), 5);
        });
        says("TORN: as OLD, and SIZE", x -> {
            is("LOSS 0, SIZE 1", toldOf(3, 1, 0, 6), 6);
            is("LOSS 99, SIZE 9", toldOf(3, 9, 99, 6), 113);
            is("held ahead of it", toldBy("miss 1000", 3, 6), 1008);
        });
        says("COPY: half (cut) of as LEAF. FADED: twice", x -> {
            is("of 0", toldOf(2, 9, 0, 6), 0);
            is("of 1", toldOf(2, 9, 1, 6), 0);
            is("of 2", toldOf(2, 9, 2, 6), 1);
            is("of 99", toldOf(2, 9, 99, 6), 49);
            is("held ahead of it", toldBy("miss 1000", 2, 6), 499);
            is("held ahead of it", toldBy("miss 0-9", 2, 6), 0);
        });
        says("FADED: twice as COPY", x -> {
            is("of 0", toldOf(4, 9, 0, 6), 0);
            is("of 1", toldOf(4, 9, 1, 6), 0);
            is("of 2", toldOf(4, 9, 2, 6), 2);
            is("of 99", toldOf(4, 9, 99, 6), 98);
            is("held ahead of it", toldBy("miss 9999", 4, 6), 998);
        });
        says("LIST: as LEAF, and how many LEAVES LEAN on it", x -> {
            x.leaf(5, 1, 0, NONE);
            is("none", x.told(0, 6), 0);
            for (int i = 1; i < 8; i++) {
                x.leaf(0, 1, 1, 0);
                is("so many: " + i, x.told(0, 6), i);
            }
            x.leans(7, 6);
            is("not those that lean on others", x.told(0, 6), 6);
            x.leans(6, NONE);
            is("not those that lean on none", x.told(0, 6), 5);
            text(x, "miss 1000");
            is("held ahead of it", x.told(0, 6), 1004);
            x.turns(0, 0);
            is("no LIST", x.told(0, 6), 999);
            x.turns(7, 5);
            is("the last: none can", x.told(7, 6), 999);
        });
    }

    private void worths() {
        says("WORTH: LEAF: LOSS and SIZE", x -> {
            is("the least", toldOf(0, 1, 0, 11), 1);
            is("the greatest", toldOf(0, 9, 99, 11), 108);
            is("whatever texts give", toldBy("miss 7", 0, 11), 44);
            is("whatever texts give", toldBy("room 7", 0, 11), 44);
        });
        says("OLD: as LEAF, and 10", x -> {
            is("the least", toldOf(1, 1, 0, 11), 11);
            is("the greatest", toldOf(1, 9, 99, 11), 118);
        });
        says("TORN: as OLD, less SIZE", x -> {
            is("the least", toldOf(3, 1, 0, 11), 10);
            is("the greatest", toldOf(3, 9, 99, 11), 109);
        });
        says("COPY: half (cut) of as LEAF. FADED: as COPY", x -> {
            is("cut to 0", toldOf(2, 1, 0, 11), 0);
            is("cut", toldOf(2, 2, 1, 11), 1);
            is("not cut", toldOf(2, 9, 99, 11), 54);
            x.leaf(2, 2, 1, NONE);
            x.set(0, 2, 9);
            is("whatever the WEIGHT", x.told(0, 11), 1);
        });
        says("FADED: as COPY, and WEIGHT", x -> {
            x.leaf(4, 2, 1, NONE);
            is("WEIGHT 1", x.told(0, 11), 2);
            x.set(0, 2, 0);
            is("WEIGHT 0", x.told(0, 11), 1);
            x.set(0, 2, 9);
            is("WEIGHT 9", x.told(0, 11), 10);
            is("cut ahead of it", toldOf(4, 1, 0, 11), 1);
        });
        says("LIST: 7", x -> {
            is("the least", toldOf(5, 1, 0, 11), 7);
            is("the greatest", toldOf(5, 9, 99, 11), 7);
        });
        says("(A KIND that is not named does as the one above it.)", x -> {
            for (int kind = 0; kind < 6; kind++) {
                x.leaf(kind, 3, 50, NONE);
                is("SIZE of " + kind, x.told(kind, 1), 3);
                is("LOSS of " + kind, x.told(kind, 2), 50);
            }
        });
    }

    private void newObject() {
        promise(1);
        says("As told", x -> {
            int[] counts = {0, 0, 0, 0, 12, 0, 0, 0, 0, 0, 0, 0, 0, 1};
            for (int i = 0; i < 14; i++) {
                is("count(" + i + ")", x.count(i), counts[i]);
            }
            for (int i = 0; i < 4; i++) {
                is("SHEET " + i + " is MISSING", x.reads(i), NOTHING);
            }
            for (int i = 0; i < 5; i++) {
                is("SLOT " + i + " holds nothing", x.lay(i, 0, 0), 0);
            }
            for (int i = 0; i < 3; i++) {
                is("no TEXT for KEY " + i, x.why(i), NONE);
            }
            is("no IMAGE", x.back(), NO);
        });
        says("no LEAVES", x -> {
            plains(x, 1, 2);
            x.keep();
            KeptLeaves y = new KeptLeaves();
            is("none, whatever other objects have", y.count(0), 0);
            is("none is told", y.told(0, 0), BAD);
            is("none is asked for", y.want(0), BAD);
            is("no IMAGE of another one", y.back(), NO);
        });
    }

    private void leaf() {
        promise(2);
        says("One more LEAF, which LEANS on another one (NONE: on none)", x -> {
            is("on none", x.leaf(0, 2, 3, NONE), 0);
            is("on another one", x.leaf(5, 4, 5, 0), 1);
            is("as many", x.count(0), 2);
            int[] due = {5, 4, 5, 1, 0, 1, 5, 0, 0, NONE, 0, 7};
            for (int what = 0; what < 12; what++) {
                is("told " + what, x.told(1, what), due[what]);
            }
            is("none", x.told(0, 4), NONE);
        });
        says("not in THE VAULT: its number", x -> {
            wants(x, plain(x, 1, 1));
            is("its number", plain(x, 1, 1), 1);
            is("no place", x.told(1, 9), NONE);
            is("one there", x.count(2), 1);
            is("its LAST", x.told(1, 7), 0);
        });
        says("BAD", x -> {
            plain(x, 1, 1);
            int[][] bad = {{-1, 1, 0, NONE}, {6, 1, 0, NONE}, {0, 0, 0, NONE}, {0, 10, 0, NONE}, {0, 1, -1, NONE}, {0, 1, 100, NONE},
                {0, 1, 0, 1}, {0, 1, 0, -1}, {0, 1, 0, NONE + 1}, {0, 1, 0, NONE - 1}, {0, 1, 0, MIN}, {0, 1, 0, MAX}};
            for (int[] b : bad) {
                is("leaf " + b[0] + " " + b[1] + " " + b[2] + " " + b[3], x.leaf(b[0], b[1], b[2], b[3]), BAD);
            }
            is("none came", x.count(0), 1);
        });
        says("FULL", x -> {
            chain(x, 7);
            is("the eighth", x.leaf(0, 1, 1, 6), 7);
            is("a ninth", x.leaf(0, 1, 1, NONE), FULL);
            is("a ninth that leans", x.leaf(0, 1, 1, 7), FULL);
            is("BAD first", x.leaf(0, 1, 1, 8), BAD);
            is("the eighth stays", x.told(7, 4), 6);
        });
    }

    private void told() {
        promise(3);
        says("what 0 KIND, 1 SIZE, 2 LOSS, 3 WEIGHT, 4 on which it LEANS (NONE), 5 ROOM, 6 MISS, 7 LAST, 8 TIMES", x -> {
            plain(x, 1, 1);
            x.leaf(3, 8, 40, 0);
            x.set(1, 2, 6);
            wants(x, 0, 1, 1, 0);
            int[] due = {3, 8, 40, 6, 0, 5, 53, 3, 2};
            for (int what = 0; what < 9; what++) {
                is("told " + what, x.told(1, what), due[what]);
            }
            is("on none", x.told(0, 4), NONE);
        });
        says("9 its place in THE VAULT (from 0 on, as they came", x -> {
            plains(x, 1, 1, 1);
            wants(x, 2, 0, 1);
            is("the first", x.told(2, 9), 0);
            is("the second", x.told(0, 9), 1);
            is("the last", x.told(1, 9), 2);
            x.out(2);
            is("one less ahead", x.told(1, 9), 1);
        });
        says("NONE)", x -> {
            plains(x, 1, 1);
            is("never there", x.told(0, 9), NONE);
            wants(x, 0, 1);
            x.out(0);
            is("not any more", x.told(0, 9), NONE);
            is("the other one", x.told(1, 9), 0);
        });
        says("10 whether READ (1, 0), 11 WORTH", x -> {
            plain(x, 1, 1);
            x.leaf(0, 2, 20, 0);
            wants(x, 1);
            is("the one under it is not there", x.told(1, 10), 0);
            is("not there", x.told(0, 10), 0);
            wants(x, 0);
            is("both are there", x.told(1, 10), 1);
            is("it leans on none", x.told(0, 10), 1);
            is("WORTH", x.told(1, 11), 22);
        });
        says("BAD", x -> {
            is("no LEAVES", x.told(0, 0), BAD);
            plain(x, 1, 1);
            is("behind the last LEAF", x.told(1, 0), BAD);
            is("below the first LEAF", x.told(-1, 0), BAD);
            is("behind the last what", x.told(0, 12), BAD);
            is("below the first what", x.told(0, -1), BAD);
            is("NONE", x.told(NONE, 0), BAD);
            is("far off", x.told(MAX, MIN), BAD);
        });
    }

    private void asAndTurns() {
        promise(4);
        says("A LEAF as one of a KIND: SIZE", x -> {
            x.leaf(1, 6, 1, NONE);
            text(x, "room 1");
            is("SIZE, not ROOM", x.as(0, 0), 6);
            is("as itself", x.as(0, 1), 6);
        });
        says("BAD: leaf, kind", x -> {
            is("no LEAVES", x.as(0, 0), BAD);
            plain(x, 1, 1);
            is("leaf below", x.as(-1, 0), BAD);
            is("leaf above", x.as(1, 0), BAD);
            is("kind below", x.as(0, -1), BAD);
            is("kind above", x.as(0, 6), BAD);
            is("the last kind", x.as(0, 5), KIND);
        });
        says("KIND: it is not of that KIND, nor of one under it", x -> {
            x.leaf(2, 4, 1, NONE);
            is("beside it", x.as(0, 1), KIND);
            is("under it", x.as(0, 4), KIND);
            x.turns(0, 4);
            is("under that one now", x.as(0, 2), 4);
            is("not under that one", x.as(0, 1), KIND);
        });
        promise(5);
        says("A LEAF is of another KIND from now on: what it was", x -> {
            plain(x, 9, 41);
            int[] rooms = {9, 10, 5, 5, 6, 1};
            int was = 0;
            for (int kind = 0; kind < 6; kind++) {
                is("what it was", x.turns(0, kind), was);
                is("KIND", x.told(0, 0), kind);
                is("ROOM", x.told(0, 5), rooms[kind]);
                was = kind;
            }
            is("the same one", x.turns(0, 5), 5);
            x.space(1);
            wants(x, 0);
            x.turns(0, 1);
            is("none is thrown", x.count(3), 10);
        });
        says("BAD", x -> {
            is("no LEAVES", x.turns(0, 0), BAD);
            plain(x, 1, 1);
            is("leaf below", x.turns(-1, 1), BAD);
            is("leaf above", x.turns(1, 1), BAD);
            is("kind below", x.turns(0, -1), BAD);
            is("kind above", x.turns(0, 6), BAD);
            is("stays", x.told(0, 0), 0);
        });
    }

    private void set() {
        promise(6);
        says("SIZE (what 0), LOSS (1), WEIGHT (2) of a LEAF becomes v: what it was", x -> {
            plains(x, 5, 5);
            is("SIZE", x.set(0, 0, 9), 5);
            is("LOSS", x.set(0, 1, 99), 50);
            is("WEIGHT", x.set(0, 2, 9), 1);
            is("SIZE", x.told(0, 1), 9);
            is("ROOM", x.told(0, 5), 9);
            is("LOSS", x.told(0, 2), 99);
            is("MISS", x.told(0, 6), 99);
            is("WEIGHT", x.told(0, 3), 9);
            is("the other one", x.told(1, 1), 5);
            is("SIZE again", x.set(0, 0, 1), 9);
            is("LOSS again", x.set(0, 1, 0), 99);
            is("WEIGHT again", x.set(0, 2, 0), 9);
            wants(x, 0, 1);
            x.space(6);
            x.set(0, 0, 9);
            is("none is thrown", x.count(3), 14);
        });
        says("BAD", x -> {
            is("no LEAVES", x.set(0, 0, 1), BAD);
            plain(x, 1, 1);
            int[][] bad = {{0, 0, 0}, {0, 0, 10}, {0, 1, -1}, {0, 1, 100}, {0, 2, -1}, {0, 2, 10}, {0, 3, 1}, {0, -1, 1}, {1, 0, 1},
                {-1, 0, 1}, {0, 0, MAX}, {0, 1, MIN}, {0, 2, NONE}, {MIN, MIN, MIN}};
            for (int[] b : bad) {
                is("set " + b[0] + " " + b[1] + " " + b[2], x.set(b[0], b[1], b[2]), BAD);
            }
            is("SIZE stays", x.told(0, 1), 1);
            is("LOSS stays", x.told(0, 2), 1);
            is("WEIGHT stays", x.told(0, 3), 1);
        });
    }

    private void leans() {
        promise(7);
        says("On which a LEAF LEANS becomes another one (NONE: none): what it was (NONE)", x -> {
            plains(x, 1, 1, 1);
            is("it was on none", x.leans(2, 1), NONE);
            is("it was on one", x.leans(2, 0), 1);
            is("the same one", x.leans(2, 0), 0);
            is("to none", x.leans(2, NONE), 0);
            is("none to none", x.leans(2, NONE), NONE);
            is("the first on none", x.leans(0, NONE), NONE);
        });
        says("BAD: also one that is not of a lesser number", x -> {
            is("no LEAVES", x.leans(0, NONE), BAD);
            plains(x, 1, 1, 1);
            is("leaf below", x.leans(-1, NONE), BAD);
            is("leaf above", x.leans(3, NONE), BAD);
            is("on itself", x.leans(1, 1), BAD);
            is("on a greater one", x.leans(1, 2), BAD);
            is("on one that is not there", x.leans(2, 3), BAD);
            is("on one below 0", x.leans(2, -1), BAD);
            is("on one beside NONE", x.leans(2, NONE + 1), BAD);
            is("the first on itself", x.leans(0, 0), BAD);
            is("stays", x.told(1, 4), NONE);
        });
    }

    private void deal() {
        promise(8);
        says("LEAVES are drawn, n (1 .. 8) of them", x -> {
            text(x, "room 9-s");
            text(x, "miss l+1000*(n=7)");
            is("the fewest", x.deal(1), 1);
            is("ROOM at once", x.told(0, 5), Math.max(1, 9 - x.told(0, 1)));
            is("MISS at once", x.told(0, 6), x.told(0, 2));
            is("so many", x.count(0), 1);
            KeptLeaves y = new KeptLeaves();
            is("the most", y.deal(8), 8);
            is("so many", y.count(0), 8);
            is("none in THE VAULT", y.count(1), 0);
            for (int what = 0; what < 5; what++) {
                is("the first is the same", y.told(0, what), x.told(0, what));
            }
            for (int leaf = 0; leaf < 8; leaf++) {
                is("ROOM", y.told(leaf, 5), y.told(leaf, 1));
                is("MISS", y.told(leaf, 6), y.told(leaf, 2));
            }
            x.turns(0, 5);
            int leaners = 0;
            x.deal(7);
            for (int leaf = 1; leaf < 8; leaf++) {
                leaners += x.told(leaf, 4) == 0 ? 1 : 0;
            }
            is("MISS of a LIST on which they lean", x.told(0, 6), x.told(0, 2) + leaners);
            is("some do", leaners > 0 ? 1 : 0, 1);
            is("MISS of the last by its number", x.told(7, 6), 999);
        });
        says("as many as there is room for (no draws for others): how many came", x -> {
            plains(x, 1, 1, 1, 1, 1, 1);
            x.seed(5);
            int[] z = {5};
            for (int i = 0; i < 6; i++) {
                drawn(z);
            }
            is("two of three", x.deal(3), 2);
            is("two times three draws", x.count(13), z[0]);
            is("no room", x.deal(8), 0);
            is("no draws", x.count(13), z[0]);
        });
        says("BAD", x -> {
            is("none", x.deal(0), BAD);
            is("below 0", x.deal(-1), BAD);
            is("nine", x.deal(9), BAD);
            is("far off", x.deal(MIN), BAD);
            is("far off", x.deal(MAX), BAD);
            is("no draw", x.count(13), 1);
            is("no LEAF", x.count(0), 0);
            x.deal(8);
            is("BAD without room, too", x.deal(9), BAD);
        });
    }
}
