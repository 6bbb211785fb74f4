/** Part 2 of the terms, and promises 9 to 17: the vault. */
final class VaultSentences extends Group {
    VaultSentences(Sentences document) {
        super(document);
    }

    @Override
    void all() {
        vault();
        asking();
        comesIn();
        rules();
        several();
        care();
        draws();
        space();
        ruleAndCare();
        want();
        next();
        outAndAt();
        fireAndSeed();
    }

    private void vault() {
        part(2);
        says("THE VAULT has LEAVES, in the order in which they came (none at first)", x -> {
            is("none at first", x.count(1), 0);
            is("none at first", x.at(0), NONE);
            plains(x, 1, 1, 1);
            wants(x, 2, 0, 1);
            same("as they came", order(x), "201");
            wants(x, 2);
            same("one that is FOUND stays at its place", order(x), "201");
            x.out(2);
            wants(x, 2);
            same("one that comes again is the last", order(x), "012");
        });
        says("SPACE is 0 .. 60 (12 at first)", x -> {
            is("at first", x.count(4), 12);
            is("too small", x.space(-1), BAD);
            is("too large", x.space(61), BAD);
            is("stays", x.count(4), 12);
            is("the greatest", x.space(60), 0);
            for (int i = 0; i < 7; i++) {
                x.leaf(1, 9, 1, NONE);
                wants(x, i);
            }
            is("six of ROOM 10 and no more", x.count(3), 60);
            is("the least", x.space(0), 6);
            is("nothing in it", x.count(3), 0);
        });
        says("FULLNESS: ROOMS of those in THE VAULT, together", x -> {
            is("of none", x.count(3), 0);
            x.leaf(1, 4, 1, NONE);
            x.leaf(2, 7, 1, NONE);
            x.leaf(5, 9, 1, NONE);
            plain(x, 9, 1);
            wants(x, 0, 1, 2);
            is("ROOMS, not SIZES", x.count(3), 5 + 4 + 1);
            text(x, "room 9");
            is("by a TEXT, above SPACE", x.count(3), 10 + 5 + 1);
            x.fire(20);
            x.space(0);
            is("of none again", x.count(3), 0);
        });
        says("TURN is 0 at first", x -> {
            is("at first", x.count(7), 0);
            plains(x, 1);
            is("with a LEAF", x.count(7), 0);
            wants(x, 0);
            is("the first asking's", x.told(0, 7), 1);
        });
        says("Each LEAF has TIMES (how often it was asked for: 0 at first) and LAST (a TURN: 0 at first)", x -> {
            plains(x, 1, 1);
            is("TIMES at first", x.told(0, 8), 0);
            is("LAST at first", x.told(0, 7), 0);
            wants(x, 0, 0, 1, 0);
            is("TIMES", x.told(0, 8), 3);
            is("LAST", x.told(0, 7), 4);
            plains(x, 1);
            x.deal(1);
            for (int leaf = 2; leaf < 4; leaf++) {
                is("TIMES of one that came late", x.told(leaf, 8), 0);
                is("LAST of one that came late", x.told(leaf, 7), 0);
            }
        });
        says("READ is a LEAF that is in THE VAULT, and LEANS on none, or on one that is READ", x -> {
            chain(x, 8);
            for (int leaf = 7; leaf > 0; leaf--) {
                wants(x, leaf);
                is("without the first", x.told(leaf, 10), 0);
            }
            wants(x, 0);
            for (int leaf = 0; leaf < 8; leaf++) {
                is("all are there", x.told(leaf, 10), 1);
            }
            x.out(3);
            for (int leaf = 0; leaf < 8; leaf++) {
                is("without 3", x.told(leaf, 10), leaf < 3 ? 1 : 0);
            }
            x.leans(4, NONE);
            is("it leans on none now", x.told(7, 10), 1);
        });
    }

    private void asking() {
        says("AN ASKING for a LEAF: TURN is 1 more, its TIMES too", x -> {
            plains(x, 5, 9);
            x.space(5);
            wants(x, 0);
            is("one that comes in: TURN", x.count(7), 1);
            is("one that comes in: TIMES", x.told(0, 8), 1);
            wants(x, 0);
            is("one that is FOUND: TURN", x.count(7), 2);
            is("one that is FOUND: TIMES", x.told(0, 8), 2);
            wants(x, 1);
            is("one that doesn't fit: TURN", x.count(7), 3);
            is("one that doesn't fit: TIMES", x.told(1, 8), 1);
            is("the other one: TIMES", x.told(0, 8), 2);
        });
        says("If it is READ, it is FOUND: LAST of it, of the one on which it LEANS, and so on, becomes TURN", x -> {
            chain(x, 8);
            wants(x, 0, 1, 2, 3, 4, 5, 6, 7);
            int cost = x.count(8);
            is("FOUND", x.want(6), 1);
            for (int leaf = 0; leaf < 7; leaf++) {
                is("LAST down to the first", x.told(leaf, 7), 9);
                is("TIMES of itself alone", x.told(leaf, 8), leaf == 6 ? 2 : 1);
            }
            is("LAST of the one that leans on it", x.told(7, 7), 8);
            is("the longest chain", x.want(7), 1);
            is("LAST of its first", x.told(0, 7), 10);
            is("COST stays", x.count(8), cost);
            same("the order stays", order(x), "01234567");
        });
        says("If not, COST (0 at first) is its MISS more", x -> {
            is("at first", x.count(8), 0);
            x.leaf(0, 1, 10, NONE);
            x.leaf(1, 2, 20, 0);
            plain(x, 9, 40);
            x.space(5);
            wants(x, 1);
            is("not there: MISS, not LOSS", x.count(8), 25);
            wants(x, 1);
            is("there, but not READ", x.count(8), 50);
            wants(x, 2);
            is("too large", x.count(8), 90);
            text(x, "miss 999");
            wants(x, 2);
            is("by a TEXT", x.count(8), 1089);
            text(x, "miss 0");
            wants(x, 2);
            is("a MISS of 0", x.count(8), 1089);
        });
        says("then, if it is in THE VAULT, its LAST becomes TURN", x -> {
            chain(x, 3);
            wants(x, 2, 0, 2);
            is("its LAST", x.told(2, 7), 3);
            is("not of one further down", x.told(0, 7), 2);
            is("not of the one that is not there", x.told(1, 7), 0);
            same("it is there once, at its place", order(x), "20");
        });
    }

    private void comesIn() {
        says("if it is not, and its ROOM is not above SPACE: as long as FULLNESS and its ROOM are above SPACE, a LEAF is THROWN", x -> {
            plains(x, 5, 7, 8, 9);
            wants(x, 0, 1);
            same("just as much as SPACE: none is thrown", order(x), "01");
            wants(x, 2);
            same("both must go", order(x), "2");
            x.space(8);
            wants(x, 3);
            same("ROOM above SPACE: it stays out, none is thrown", order(x), "2");
            is("its LAST stays", x.told(3, 7), 0);
            x.space(9);
            wants(x, 3);
            same("ROOM as SPACE: it comes in", order(x), "3");
            KeptLeaves y = new KeptLeaves();
            plains(y, 4, 4, 4, 5);
            wants(y, 0, 1, 2, 3);
            same("1 too much: as many as need be", order(y), "23");
            KeptLeaves z = new KeptLeaves();
            plains(z, 6, 6, 1);
            wants(z, 0, 1, 2);
            same("1 too much by the least one", order(z), "12");
        });
        says("then it comes in, its LAST becomes TURN", x -> {
            plains(x, 6, 6, 6);
            wants(x, 0, 1, 2);
            same("as the last", order(x), "12");
            is("its LAST", x.told(2, 7), 3);
            wants(x, 0);
            same("one that was thrown comes again", order(x), "20");
            is("its LAST", x.told(0, 7), 4);
            is("LAST of one that was thrown stays", x.told(1, 7), 2);
        });
    }

    /** 2, 0, 1 came in that order; 1 was asked for seldom, 2 long ago, 0 last. */
    private static void threeInVault(KeptLeaves x) {
        plains(x, 4, 4, 4, 4);
        wants(x, 2, 0, 2, 1, 2, 1, 0, 0);
    }

    private void rules() {
        says("THROWN by THE RULE is: 0 (at first): the one that came first", x -> {
            is("at first", x.count(5), 0);
            threeInVault(x);
            is("not the least number", x.next(), 2);
            text(x, "throw n=1");
            is("whatever a TEXT gives", x.next(), 2);
            wants(x, 3);
            same("thrown", order(x), "013");
        });
        says("1: that with the least LAST", x -> {
            plains(x, 4, 4, 4, 4);
            wants(x, 0, 1, 2, 0, 2);
            x.rule(1);
            text(x, "throw n=2");
            is("not the first, whatever a TEXT gives", x.next(), 1);
            wants(x, 3);
            same("thrown", order(x), "023");
            is("by LAST, not by TIMES", x.next(), 0);
        });
        says("2: that with the least TIMES", x -> {
            threeInVault(x);
            x.rule(2);
            text(x, "throw n=2");
            is("not the first, whatever a TEXT gives", x.next(), 1);
            wants(x, 3);
            same("thrown", order(x), "203");
            is("TIMES of the one that came last", x.next(), 3);
        });
        says("3: by lot: a draw's rest by how many there are: that many, in their order, are passed by", x -> {
            threeInVault(x);
            x.rule(3);
            text(x, "throw n=1");
            int[] vault = {2, 0, 1};
            boolean[] met = new boolean[3];
            for (int seed = 0; seed < 40; seed++) {
                x.seed(seed);
                int passed = drawn(new int[] {seed}) % 3;
                met[passed] = true;
                is("the rest " + passed, x.next(), vault[passed]);
            }
            is("all rests were met", met[0] && met[1] && met[2] ? 1 : 0, 1);
            int[] z = {7};
            x.seed(7);
            x.space(0);
            for (int i = 0; i < 3; i++) {
                drawn(z);
            }
            is("a draw for each, for the only one too", x.count(13), z[0]);
            wants(x, 0);
            is("no draw if none is thrown", x.count(13), z[0]);
        });
        says("4: that for which throw gives the most (without a TEXT: as 0)", x -> {
            threeInVault(x);
            x.rule(4);
            is("without a TEXT", x.next(), 2);
            text(x, "room s");
            is("without a TEXT of that KEY", x.next(), 2);
            text(x, "throw n=1");
            is("the most", x.next(), 1);
            text(x, "throw 0-n-5");
            is("the most of some below 0", x.next(), 0);
            // n * 2^30: 0, 2^30, and 2^31, which wraps to the least int.
            text(x, "throw n*4096*4096*64");
            is("the greatest, as ints wrap", x.next(), 1);
            text(x, "throw 4096*4096*128+(n=0)");
            is("the least int is the least", x.next(), 0);
        });
    }

    private void several() {
        says("Of several it is the one that came first", x -> {
            x.leaf(0, 3, 1, NONE);
            x.leaf(0, 3, 1, 0);
            x.leaf(0, 3, 1, NONE);
            wants(x, 2, 1, 0, 1, 2);
            x.out(2);
            wants(x, 2);
            x.rule(1);
            // 1 and 0 were both FOUND at TURN 4; 1 came ahead of 0.
            is("LAST of both", x.told(0, 7), x.told(1, 7));
            is("of the same LAST", x.next(), 1);
            KeptLeaves y = new KeptLeaves();
            plains(y, 3, 3, 3);
            wants(y, 2, 1, 0);
            y.rule(2);
            is("of the same TIMES", y.next(), 2);
            wants(y, 2);
            is("of two of the same TIMES", y.next(), 1);
            y.rule(4);
            text(y, "throw 5");
            is("of the same by a TEXT", y.next(), 2);
            text(y, "throw 0-5");
            is("of the same below 0 by a TEXT", y.next(), 2);
            text(y, "throw n<2");
            is("of two of the same by a TEXT", y.next(), 1);
        });
    }

    private void care() {
        says("With CARE 1 (0 at first) just those are looked at on which no LEAF in THE VAULT LEANS", x -> {
            is("at first", x.count(6), 0);
            x.leaf(0, 3, 1, NONE);
            x.leaf(0, 3, 1, 0);
            x.leaf(0, 3, 1, 1);
            wants(x, 0, 1);
            is("without CARE", x.next(), 0);
            x.care(1);
            is("0 has one on it; 1's is not in THE VAULT", x.next(), 1);
            wants(x, 2);
            is("just the last of a chain", x.next(), 2);
            x.out(1);
            is("none leans on 0 now", x.next(), 0);
            x.leans(2, 0);
            is("2 leans on 0 now", x.next(), 2);
        });
        says("With CARE 1", x -> {
            // By lot the number of those that are looked at counts, and they alone are passed by.
            x.leaf(0, 3, 1, NONE);
            plains(x, 3, 3);
            x.leaf(0, 3, 1, 0);
            wants(x, 0, 2, 1, 3);
            x.care(1);
            x.rule(3);
            int[] looked = {2, 1, 3};
            for (int seed = 0; seed < 30; seed++) {
                x.seed(seed);
                is("by lot", x.next(), looked[drawn(new int[] {seed}) % 3]);
            }
            x.rule(1);
            is("by LAST: 0 is the least, but 3 leans on it", x.next(), 2);
            x.rule(4);
            text(x, "throw 9-n");
            is("by a TEXT: 0 has the most, but 3 leans on it", x.next(), 1);
            x.rule(2);
            is("by TIMES: 0 came first, but 3 leans on it", x.next(), 2);
            x.rule(0);
            is("how many", x.space(0), 4);
        });
        says("(One that is THROWN is not in THE VAULT any more.)", x -> {
            plains(x, 6, 6, 6);
            wants(x, 0, 1, 2);
            is("no place", x.told(0, 9), NONE);
            is("not READ", x.told(0, 10), 0);
            is("as bits", x.count(2), 6);
            is("FULLNESS", x.count(3), 12);
            is("it is a LEAF still", x.count(0), 3);
            is("its TIMES", x.told(0, 8), 1);
        });
    }

    private void draws() {
        says("z is told (1 at first)", x -> {
            is("at first", x.count(13), 1);
            is("at first", x.seed(2), 1);
            is("told", x.count(13), 2);
        });
        says("A draw: z becomes z * 1103515245 + 12345 (an int)", x -> {
            int[][] next = {{0, 12345}, {1, 1103527590}, {-1, -1103502900}, {MAX, 1043980748}, {MIN, -2147471303}};
            for (int[] n : next) {
                x.seed(n[0]);
                x.fire(1);
                is("behind " + n[0], x.count(13), n[1]);
            }
        });
        says("it gives z >>> 8", x -> {
            // Behind MIN z is below 0: it gives 8388656, whose rest by 9 is 8.
            x.seed(MIN);
            x.deal(1);
            is("of a z below 0", x.told(0, 1), 9);
            // Behind 0 z is 12345: it gives 48, whose rest by 9 is 3.
            x.seed(0);
            x.deal(1);
            is("of a z above 0", x.told(1, 1), 4);
        });
    }

    private void space() {
        promise(9);
        says("SPACE becomes v", x -> {
            int[] values = {0, 1, 59, 60};
            for (int v : values) {
                is("none is thrown", x.space(v), 0);
                is("SPACE", x.count(4), v);
            }
        });
        says("as long as FULLNESS is above it, a LEAF is THROWN: how many", x -> {
            plains(x, 3, 4, 5);
            wants(x, 0, 1, 2);
            is("just as full", x.space(12), 0);
            is("1 too full", x.space(11), 1);
            same("the first went", order(x), "12");
            is("just as full again", x.space(9), 0);
            is("all must go", x.space(4), 2);
            is("none is left", x.count(1), 0);
            is("none is there", x.space(0), 0);
            KeptLeaves y = new KeptLeaves();
            plains(y, 3, 4, 5);
            wants(y, 0, 1, 2);
            y.rule(4);
            text(y, "throw r");
            is("by the rule", y.space(6), 2);
            same("by the rule", order(y), "0");
            KeptLeaves z = new KeptLeaves();
            plains(z, 6, 6);
            wants(z, 0, 1);
            z.set(0, 0, 9);
            is("an overfull one, by the same SPACE", z.space(12), 1);
            same("the first went", order(z), "1");
            KeptLeaves w = new KeptLeaves();
            chain(w, 8);
            wants(w, 0, 1, 2, 3, 4, 5, 6, 7);
            is("all that there can be", w.space(0), 8);
            is("none is left", w.count(1), 0);
        });
        says("BAD", x -> {
            plains(x, 9);
            wants(x, 0);
            is("too small", x.space(-1), BAD);
            is("too large", x.space(61), BAD);
            is("far off", x.space(MIN), BAD);
            is("far off", x.space(MAX), BAD);
            is("SPACE stays", x.count(4), 12);
            is("THE VAULT stays", x.count(1), 1);
        });
    }

    private void ruleAndCare() {
        promise(10);
        says("THE RULE becomes v (0 .. 4): what it was", x -> {
            is("the greatest", x.rule(4), 0);
            is("the least", x.rule(0), 4);
            is("the same", x.rule(0), 0);
            is("between", x.rule(2), 0);
            is("THE RULE", x.count(5), 2);
        });
        says("BAD", x -> {
            x.rule(3);
            is("too small", x.rule(-1), BAD);
            is("too large", x.rule(5), BAD);
            is("far off", x.rule(MAX), BAD);
            is("stays", x.count(5), 3);
        });
        promise(11);
        says("CARE becomes v (0, 1): what it was", x -> {
            is("1", x.care(1), 0);
            is("1 again", x.care(1), 1);
            is("CARE", x.count(6), 1);
            is("0", x.care(0), 1);
            is("0 again", x.care(0), 0);
        });
        says("BAD", x -> {
            x.care(1);
            is("too small", x.care(-1), BAD);
            is("too large", x.care(2), BAD);
            is("stays", x.count(6), 1);
        });
    }

    private void want() {
        promise(12);
        says("AN ASKING for a LEAF: 1 it is FOUND, 0", x -> {
            plain(x, 1, 1);
            x.leaf(0, 1, 1, 0);
            is("it comes in", x.want(1), 0);
            is("there, not READ", x.want(1), 0);
            is("the one under it comes in", x.want(0), 0);
            is("READ", x.want(1), 1);
            x.space(0);
            is("no SPACE", x.want(0), 0);
            is("no SPACE still", x.want(0), 0);
        });
        says("BAD", x -> {
            is("no LEAVES", x.want(0), BAD);
            plain(x, 1, 1);
            is("below", x.want(-1), BAD);
            is("behind the last", x.want(1), BAD);
            is("NONE", x.want(NONE), BAD);
            is("no TURN", x.count(7), 0);
            is("no COST", x.count(8), 0);
        });
    }

    private void next() {
        promise(13);
        says("The LEAF that would be THROWN now (z stays)", x -> {
            plains(x, 4, 4, 4);
            wants(x, 0, 1, 2);
            x.rule(3);
            x.seed(12);
            int first = x.next();
            is("z stays", x.count(13), 12);
            is("the same again", x.next(), first);
            is("it stays", x.count(1), 3);
            is("no TURN", x.count(7), 3);
            x.space(11);
            is("that one", x.told(first, 9), NONE);
            x.space(4);
            is("the only one", x.next(), x.at(0));
        });
        says("NONE: THE VAULT has none", x -> {
            for (int rule = 0; rule < 5; rule++) {
                x.rule(rule);
                is("at first, by rule " + rule, x.next(), NONE);
            }
            plains(x, 4);
            wants(x, 0);
            x.out(0);
            for (int rule = 0; rule < 5; rule++) {
                x.rule(rule);
                x.care(rule % 2);
                is("not any more, by rule " + rule, x.next(), NONE);
            }
            is("z stays", x.count(13), 1);
        });
    }

    private void outAndAt() {
        promise(14);
        says("A LEAF is taken out of THE VAULT: 1", x -> {
            plains(x, 1, 1, 1);
            wants(x, 0, 1, 2);
            is("from between", x.out(1), 1);
            same("the others stay in their order", order(x), "02");
            is("the last", x.out(2), 1);
            is("the first", x.out(0), 1);
            is("none is left", x.count(2), 0);
            is("LAST stays", x.told(1, 7), 2);
            is("TURN stays", x.count(7), 3);
        });
        says("0 it is not in it", x -> {
            plains(x, 1, 1);
            is("never", x.out(0), 0);
            wants(x, 0);
            is("the other one", x.out(1), 0);
            x.out(0);
            is("not any more", x.out(0), 0);
        });
        says("BAD", x -> {
            is("no LEAVES", x.out(0), BAD);
            plain(x, 1, 1);
            is("below", x.out(-1), BAD);
            is("behind the last", x.out(1), BAD);
            is("NONE", x.out(NONE), BAD);
        });
        promise(15);
        says("Which LEAF is at a place of THE VAULT", x -> {
            plains(x, 1, 1, 1);
            wants(x, 2, 1);
            is("the first place", x.at(0), 2);
            is("the last place", x.at(1), 1);
        });
        says("BAD: below 0", x -> {
            is("just below", x.at(-1), BAD);
            is("far below", x.at(MIN), BAD);
            is("NONE", x.at(NONE), BAD);
        });
        says("NONE: there is no such place", x -> {
            is("none at all", x.at(0), NONE);
            plains(x, 1, 1);
            wants(x, 0, 1);
            is("behind the last", x.at(2), NONE);
            is("more than there can be", x.at(8), NONE);
            is("far off", x.at(MAX), NONE);
            x.out(0);
            is("not any more", x.at(1), NONE);
        });
    }

    private void fireAndSeed() {
        promise(16);
        says("A FIRE of n (1 .. 20): how many LEAVES are not in THE VAULT any more", x -> {
            x.space(60);
            chain(x, 8);
            for (int n = 1; n <= 20; n++) {
                wants(x, 0, 1, 2, 3, 4, 5, 6, 7);
                x.seed(n);
                int[] z = {n};
                int bits = 255;
                for (int i = 0; i < n; i++) {
                    bits &= ~(1 << drawn(z) % 8);
                }
                is("how many of " + n, x.fire(n), 8 - Integer.bitCount(bits));
                is("which are left", x.count(2), bits);
                is("so many draws", x.count(13), z[0]);
            }
        });
        says("BAD", x -> {
            plain(x, 1, 1);
            wants(x, 0);
            is("none", x.fire(0), BAD);
            is("below 0", x.fire(-1), BAD);
            is("too many", x.fire(21), BAD);
            is("far off", x.fire(MIN), BAD);
            is("far off", x.fire(MAX), BAD);
            is("no draw", x.count(13), 1);
            is("it stays", x.count(1), 1);
        });
        promise(17);
        says("z becomes v: what it was", x -> {
            is("any", x.seed(MIN), 1);
            is("any", x.seed(MAX), MIN);
            is("any", x.seed(0), MAX);
            is("one that is BAD elsewhere", x.seed(BAD), 0);
            is("NONE", x.seed(NONE), BAD);
            is("what it is", x.count(13), NONE);
        });
    }
}
