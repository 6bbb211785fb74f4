/** Part 3 of the terms, and promises 18 to 27: the row, the best. */
final class RowSentences extends Group {
    RowSentences(Sentences document) {
        super(document);
    }

    @Override
    void all() {
        row();
        kept();
        sets();
        meansAndGap();
        fireAndDrawn();
        planAndClear();
        runAndWould();
        least();
        hold();
        bestAndPrice();
        means();
        gap();
    }

    private void row() {
        part(3);
        says("THE ROW: up to 24 askings for LEAVES", x -> {
            plains(x, 1);
            is("none at first", x.count(9), 0);
            for (int i = 1; i <= 24; i++) {
                is("asking " + i, x.plan(0), i);
            }
            is("one more", x.plan(0), FULL);
            x.sheet(0, 0, 1);
            is("one more from a SHEET", x.pour(0), 0);
            is("twenty-four", x.count(9), 24);
            is("all are made", x.run(24), 10);
            is("TURN", x.count(7), 24);
        });
        says("LEAST: the least MISSES together of THE ROW for one who keeps, behind each asking, whatever set of what was kept"
            + " ahead of it and of the LEAF that is asked for, if its ROOMS are not above SPACE", x -> {
            plains(x, 5, 7);
            plans(x, 0, 1, 0, 1);
            is("ROOMS just as SPACE", x.least(0), 50 + 70);
            x.space(11);
            is("1 above SPACE", x.least(0), 50 + 70 + 50);
            x.space(7);
            is("one fits", x.least(0), 50 + 70 + 50);
            x.space(6);
            is("the lesser fits alone", x.least(0), 50 + 70 + 70);
            x.space(4);
            is("none fits", x.least(0), 50 + 70 + 50 + 70);
            x.space(0);
            is("no SPACE", x.least(0), 50 + 70 + 50 + 70);
            KeptLeaves y = new KeptLeaves();
            plains(y, 7, 6);
            wants(y, 0);
            plans(y, 1, 0);
            is("the one that is asked for needn't be kept", y.least(0), 60);
            is("THE RULE keeps it", y.would(), 60 + 70);
        });
        says("(a LEAF is missed, unless it would be READ of what was kept ahead of its asking", x -> {
            chain(x, 3);
            plans(x, 2, 2);
            is("what it leans on is never asked for", x.least(0), 20);
            x.clear();
            plans(x, 2, 1, 0, 2);
            is("all it leans on was kept", x.least(0), 30);
            is("it must be kept first", x.least(1), 4);
            x.space(2);
            is("three don't fit", x.least(0), 40);
            is("nothing helps", x.least(1), 0);
        });
        says("ahead of the first one that is THE VAULT as it is)", x -> {
            plains(x, 6, 3);
            plans(x, 0);
            is("empty", x.least(0), 60);
            wants(x, 0);
            is("it is there", x.least(0), 0);
            x.space(8);
            x.set(0, 0, 9);
            is("it is there, though above SPACE", x.least(0), 0);
            plans(x, 0);
            is("it can't be kept", x.least(0), 60);
            plans(x, 1);
            is("nor with another one", x.least(0), 90);
            is("THE VAULT keeps it up to the last", x.would(), 30);
        });
    }

    private void kept() {
        says("KEPT: the set behind the first asking by which it is so much", x -> {
            plains(x, 5, 7);
            plans(x, 0, 1, 0, 1);
            is("it is needed", x.least(1), 1);
            x.space(11);
            is("it is of no use", x.least(1), 0);
            wants(x, 1);
            is("the other one is of use", x.least(1), 2);
            x.space(12);
            wants(x, 0);
            is("both are", x.least(1), 3);
            KeptLeaves y = new KeptLeaves();
            plains(y, 1, 1);
            plans(y, 0, 1, 1);
            is("one that was not there can't be kept", y.least(1), 0);
        });
        says("of several the least as bits (of LEAVES 0 .. 7)", x -> {
            chain(x, 8);
            wants(x, 0, 1, 2, 3, 4, 5, 6, 7);
            for (int leaf = 1; leaf < 8; leaf++) {
                x.leans(leaf, NONE);
            }
            plans(x, 7);
            is("nothing needs to be kept", x.least(1), 0);
            plans(x, 7);
            is("the highest bit", x.least(1), 128);
            plans(x, 0, 6);
            is("no more than need be", x.least(1), 128 + 64 + 1);
            x.clear();
            plans(x, 7);
            is("nothing needs to be kept, whatever was asked ahead", x.least(1), 0);
            KeptLeaves y = new KeptLeaves();
            plain(y, 6, 50);
            plain(y, 6, 50);
            y.space(6);
            wants(y, 0);
            plans(y, 1, 0, 1);
            is("either is as good", y.least(0), 100);
            is("the lesser", y.least(1), 1);
            KeptLeaves z = new KeptLeaves();
            plain(z, 6, 0);
            plans(z, 0, 0);
            is("a MISS of 0", z.least(1), 0);
        });
    }

    private void sets() {
        says("HELD of a set: WEIGHT times MISS of all LEAVES that would be READ of it, together", x -> {
            x.leaf(1, 2, 20, NONE);
            x.leaf(0, 2, 30, 0);
            plain(x, 2, 40);
            x.set(0, 2, 9);
            x.set(2, 2, 0);
            is("none", x.hold(0), 0);
            is("WEIGHT 9, MISS 25", x.hold(1), 225);
            is("not READ", x.hold(2), 0);
            is("WEIGHT 0", x.hold(4), 0);
            is("both", x.hold(3), 255);
            is("all", x.hold(7), 255);
            wants(x, 0, 1, 2);
            is("THE VAULT doesn't matter", x.hold(2), 0);
        });
        says("BEST SET: of all sets whose ROOMS are not above SPACE that with the greatest HELD", x -> {
            is("no LEAVES", x.best(1), 0);
            plains(x, 5, 7);
            is("ROOMS just as SPACE", x.best(1), 3);
            is("ROOMS just as SPACE", x.best(0), 120);
            x.space(11);
            is("1 above SPACE", x.best(1), 2);
            x.space(6);
            is("the lesser fits alone", x.best(1), 1);
            x.space(4);
            is("none fits", x.best(1), 0);
            is("none fits", x.best(0), 0);
            KeptLeaves y = new KeptLeaves();
            chain(y, 8);
            is("all fit", y.best(1), 255);
            is("all fit", y.best(0), 80);
            y.space(7);
            is("a chain without its end", y.best(1), 127);
            KeptLeaves z = new KeptLeaves();
            plain(z, 9, 1);
            is("a HELD of 1", z.best(1), 1);
            is("a HELD of 1", z.best(0), 1);
        });
        says("of several the least as bits. PRICE", x -> {
            plain(x, 9, 50);
            plain(x, 9, 50);
            is("either is as good", x.best(1), 1);
            x.set(0, 2, 0);
            is("the one with WEIGHT", x.best(1), 2);
            x.set(1, 2, 0);
            is("none has WEIGHT", x.best(1), 0);
            x.space(60);
            x.set(1, 2, 1);
            is("none more than need be", x.best(1), 2);
        });
        says("PRICE of a LEAF: by how much the greatest HELD would be less without it", x -> {
            plains(x, 5, 4, 6);
            is("in it: 110 less 100", x.price(0), 10);
            is("not in it", x.price(1), 0);
            is("in it: 110 less 90", x.price(2), 20);
            x.leans(2, 0);
            is("without it the other one is not READ: 110 less 40", x.price(0), 70);
            x.space(0);
            is("nothing fits", x.price(0), 0);
            x.space(60);
            is("all fit", x.price(1), 40);
            x.set(1, 2, 0);
            is("no WEIGHT", x.price(1), 0);
        });
    }

    private void meansAndGap() {
        says("MEANS for n: of all rows of n LEAVES (one may be there again) that might be asked for from now on: the product of"
            + " their WEIGHTS times what COST would be more, together", x -> {
            plain(x, 7, 10);
            is("one, again and again", x.means(3), 10);
            x.set(0, 2, 9);
            is("its WEIGHT", x.means(1), 90);
            is("its WEIGHT twice", x.means(2), 810);
            is("its WEIGHT thrice", x.means(3), 7290);
            x.space(0);
            is("it never comes in", x.means(3), 3 * 7290);
            x.space(12);
            plain(x, 6, 3);
            // Rows 00: 10, 01: 13, 10: 13, 11: 3; their products 81, 9, 9, 1.
            is("two", x.means(2), 810 + 117 + 117 + 3);
            wants(x, 0);
            is("from now on", x.means(1), 3);
            x.set(1, 2, 0);
            is("WEIGHT 0", x.means(2), 0);
            KeptLeaves y = new KeptLeaves();
            y.space(0);
            text(y, "miss 999");
            for (int i = 0; i < 8; i++) {
                y.leaf(3, 9, 0, NONE);
                y.set(i, 2, 9);
            }
            is("the most there can be", y.means(3), 512L * 729 * 3 * 1013);
        });
        says("the product of their WEIGHTS times what COST would be more, together", x -> {
            // By lot: each row begins with the same z.
            plains(x, 6, 6, 6);
            wants(x, 0, 1);
            x.rule(3);
            for (int seed = 0; seed < 20; seed++) {
                x.seed(seed);
                // 02, 12 and 22 miss once; 20 and 21 throw the same one of 0 and 1, so that just one of them misses twice.
                is("by lot", x.means(2), 3 * 60 + 60 + 2 * 60);
                is("z stays", x.count(13), seed);
            }
        });
        says("GAP for n: of all these rows (whatever their WEIGHTS) the greatest of what COST would be more, less LEAST of that row", x -> {
            plains(x, 6, 6, 6);
            is("an empty VAULT", x.gap(2, 0), 0);
            wants(x, 0, 1);
            is("2 throws 0", x.gap(2, 0), 60);
            is("the row", x.gap(2, 1), 20);
            for (int leaf = 0; leaf < 3; leaf++) {
                x.set(leaf, 2, 0);
            }
            is("whatever their WEIGHTS", x.gap(2, 0), 60);
            is("one asking", x.gap(1, 0), 0);
            KeptLeaves y = new KeptLeaves();
            plains(y, 6);
            wants(y, 0);
            y.space(8);
            y.set(0, 0, 9);
            is("below 0: THE VAULT keeps what can't be kept", y.gap(2, 0), -60);
            is("the row", y.gap(2, 1), 0);
        });
        says("the first such row (by numbers, the first asking first)", x -> {
            plains(x, 1, 1);
            is("all are the same", x.gap(2, 1), 0);
            is("all are the same", x.gap(1, 1), 0);
            KeptLeaves y = new KeptLeaves();
            plain(y, 6, 50);
            plain(y, 6, 50);
            plain(y, 6, 50);
            plain(y, 9, 50);
            wants(y, 1, 0);
            // 2 throws 1, 3 throws both: 21, 30 and 31 lose 50.
            is("so much", y.gap(2, 0), 50);
            is("the first of three", y.gap(2, 1), 21);
        });
    }

    private void fireAndDrawn() {
        says("A FIRE of n: n draws, each: the LEAF of its rest by 8, if it is in THE VAULT, is not any more", x -> {
            // Behind 1 the draw gives 4310654, whose rest by 8 is 6.
            chain(x, 6);
            wants(x, 0, 1, 2, 3, 4, 5);
            is("there is no such LEAF", x.fire(1), 0);
            plains(x, 1, 1);
            x.seed(1);
            is("it is not there", x.fire(1), 0);
            wants(x, 6, 7);
            x.seed(1);
            is("it is there", x.fire(1), 1);
            same("it is not any more", order(x), "0123457");
            x.seed(1);
            is("not twice", x.fire(1), 0);
            x.seed(MIN);
            is("a z below 0: the rest is 0", x.fire(1), 1);
            same("it is not any more", order(x), "123457");
        });
        says("A LEAF that is drawn: KIND 0, SIZE 1 and the rest of a draw by 9, LOSS the rest of one more by 100", x -> {
            int[] sizes = new int[10];
            for (int seed = 1; seed <= 60; seed++) {
                KeptLeaves y = new KeptLeaves();
                y.seed(seed * 7777777);
                int[] z = {seed * 7777777};
                y.deal(1);
                is("KIND", y.told(0, 0), 0);
                int size = 1 + drawn(z) % 9;
                sizes[size]++;
                is("SIZE", y.told(0, 1), size);
                is("LOSS", y.told(0, 2), drawn(z) % 100);
                drawn(z);
                is("three draws", y.count(13), z[0]);
            }
            is("the least was met", sizes[1] > 0 ? 1 : 0, 1);
            is("the greatest was met", sizes[9] > 0 ? 1 : 0, 1);
        });
        says("it LEANS on the LEAF that is the rest of one more by 1 and how many there are (the greatest rest: on none)", x -> {
            for (int seed = 0; seed < 20; seed++) {
                KeptLeaves y = new KeptLeaves();
                y.seed(seed);
                y.deal(1);
                is("the first: on none", y.told(0, 4), NONE);
            }
            boolean[] met = new boolean[3];
            for (int seed = 0; seed < 30; seed++) {
                KeptLeaves y = new KeptLeaves();
                plains(y, 1, 1);
                y.seed(seed);
                y.deal(1);
                int[] z = {seed};
                drawn(z);
                drawn(z);
                int rest = drawn(z) % 3;
                met[rest] = true;
                is("the third", y.told(2, 4), rest == 2 ? NONE : rest);
            }
            is("each was met", met[0] && met[1] && met[2] ? 1 : 0, 1);
        });
    }

    private void planAndClear() {
        promise(18);
        says("THE ROW has one more asking: how many", x -> {
            plains(x, 1, 1);
            is("one", x.plan(1), 1);
            is("two", x.plan(1), 2);
            is("nothing is asked for", x.count(7), 0);
            is("it is in THE ROW", x.would(), 10);
        });
        says("BAD", x -> {
            is("no LEAVES", x.plan(0), BAD);
            plains(x, 1);
            is("below", x.plan(-1), BAD);
            is("behind the last", x.plan(1), BAD);
            is("NONE", x.plan(NONE), BAD);
            is("none came", x.count(9), 0);
        });
        says("FULL", x -> {
            plains(x, 1, 9);
            for (int i = 0; i < 23; i++) {
                plans(x, 0);
            }
            is("the last", x.plan(0), 24);
            is("one more", x.plan(1), FULL);
            is("BAD first", x.plan(2), BAD);
            is("none came", x.would(), 10);
            x.clear();
            is("room again", x.plan(1), 1);
        });
        promise(19);
        says("THE ROW has none: how many it had", x -> {
            is("none", x.clear(), 0);
            plains(x, 1);
            plans(x, 0, 0, 0);
            is("three", x.clear(), 3);
            is("none then", x.count(9), 0);
            is("none again", x.clear(), 0);
            is("no asking is left", x.would(), 0);
        });
    }

    private void runAndWould() {
        promise(20);
        says("The first n (1 .. 24) askings of THE ROW are made, one behind the other (THE ROW stays): by how much COST is more", x -> {
            plains(x, 7, 6);
            plans(x, 0, 1, 0);
            is("the first", x.run(1), 70);
            is("TURN", x.count(7), 1);
            is("again from the first on", x.run(2), 60);
            is("all of them", x.run(3), 70 + 60 + 70);
            is("COST", x.count(8), 70 + 60 + 200);
            is("THE ROW stays", x.count(9), 3);
            is("TIMES", x.told(0, 8), 4);
        });
        says("BAD", x -> {
            plains(x, 1);
            for (int i = 0; i < 24; i++) {
                plans(x, 0);
            }
            is("none", x.run(0), BAD);
            is("below 0", x.run(-1), BAD);
            is("too many", x.run(25), BAD);
            is("far off", x.run(MAX), BAD);
            is("no TURN", x.count(7), 0);
            is("the most", x.run(24), 10);
        });
        says("NO: there are not so many", x -> {
            is("none", x.run(1), NO);
            plains(x, 1);
            plans(x, 0);
            is("one more", x.run(2), NO);
            is("the most", x.run(24), NO);
            is("no TURN", x.count(7), 0);
            is("as many as there are", x.run(1), 10);
        });
        promise(21);
        says("By how much COST would be more behind all askings of THE ROW", x -> {
            is("none", x.would(), 0);
            plains(x, 7, 6);
            plans(x, 0, 1, 0);
            is("all", x.would(), 200);
            wants(x, 0);
            is("from now on", x.would(), 60 + 70);
        });
        says("nothing changes", x -> {
            KeptLeaves y = Scenes.rich();
            y.would();
            same("all is as it was", Scenes.seen(y), Scenes.seen(Scenes.rich()));
            KeptLeaves z = Scenes.rich();
            z.rule(3);
            z.would();
            is("z", z.count(13), 99);
            is("some asking would be missed", z.would() > 0 ? 1 : 0, 1);
        });
    }

    private void least() {
        promise(22);
        says("LEAST (what 0), KEPT (1)", x -> {
            plains(x, 3);
            plans(x, 0, 0);
            is("LEAST", x.least(0), 30);
            is("KEPT", x.least(1), 1);
            for (int i = 2; i < 24; i++) {
                plans(x, 0);
            }
            is("of 24 askings", x.least(0), 30);
            x.space(2);
            is("of 24 that are all missed", x.least(0), 24 * 30);
            is("nothing fits", x.least(1), 0);
            is("nothing changes", x.count(7), 0);
        });
        says("BAD", x -> {
            plains(x, 3);
            plans(x, 0);
            is("below", x.least(-1), BAD);
            is("above", x.least(2), BAD);
            is("far off", x.least(MIN), BAD);
        });
        says("NONE: KEPT, if there are no askings", x -> {
            is("no LEAVES", x.least(1), NONE);
            plains(x, 3);
            wants(x, 0);
            is("no askings", x.least(1), NONE);
            is("LEAST is 0 then", x.least(0), 0);
            plans(x, 0);
            is("one asking: nothing must be kept", x.least(1), 0);
            x.space(0);
            plans(x, 0);
            is("two that are missed", x.least(0), 60);
            x.clear();
            is("not any more", x.least(1), NONE);
            is("LEAST is 0 again", x.least(0), 0);
        });
    }

    private void hold() {
        promise(23);
        says("HELD of a set (bits of LEAVES there are)", x -> {
            is("the empty one, without LEAVES", x.hold(0), 0);
            chain(x, 8);
            is("the empty one", x.hold(0), 0);
            is("the last alone", x.hold(128), 0);
            is("all", x.hold(255), 80);
        });
        says("BAD", x -> {
            is("no LEAVES", x.hold(1), BAD);
            plains(x, 1, 1);
            is("the greatest", x.hold(3), 20);
            is("one more", x.hold(4), BAD);
            is("below 0", x.hold(-1), BAD);
            is("far off", x.hold(MIN), BAD);
            is("far off", x.hold(MAX), BAD);
            chain(x, 6);
            is("the greatest of all", x.hold(255) == BAD ? 1 : 0, 0);
            is("one more", x.hold(256), BAD);
        });
        says("NO: its ROOMS are above SPACE", x -> {
            plains(x, 5, 7);
            is("just as SPACE", x.hold(3), 120);
            x.space(11);
            is("1 above", x.hold(3), NO);
            is("a part of it", x.hold(2), 70);
            x.space(0);
            is("one", x.hold(1), NO);
            is("none", x.hold(0), 0);
        });
    }

    private void bestAndPrice() {
        promise(24);
        says("HELD of the BEST SET (what 0), the set as bits (1)", x -> {
            is("no LEAVES", x.best(0), 0);
            is("no LEAVES", x.best(1), 0);
            plains(x, 9, 3);
            is("HELD", x.best(0), 120);
            is("the set", x.best(1), 3);
            is("HELD of it", x.hold(3), 120);
            is("nothing comes in", x.count(1), 0);
        });
        says("BAD", x -> {
            is("below", x.best(-1), BAD);
            is("above", x.best(2), BAD);
            is("far off", x.best(MAX), BAD);
        });
        promise(25);
        says("PRICE of a LEAF", x -> {
            plains(x, 9, 3);
            is("both fit", x.price(0), 90);
            is("both fit", x.price(1), 30);
            x.space(9);
            is("one fits", x.price(0), 60);
            is("the other one", x.price(1), 0);
            is("nothing changes", x.count(0), 2);
        });
        says("BAD", x -> {
            is("no LEAVES", x.price(0), BAD);
            plains(x, 9);
            is("below", x.price(-1), BAD);
            is("behind the last", x.price(1), BAD);
            is("NONE", x.price(NONE), BAD);
        });
    }

    private void means() {
        promise(26);
        says("MEANS for n (1 .. 3)", x -> {
            plains(x, 1, 2);
            is("the least n", x.means(1), 30);
            // Rows 00: 10, 01: 30, 10: 30, 11: 20.
            is("two", x.means(2), 90);
            // 000: 10, 111: 20, all six others 30.
            is("the greatest n", x.means(3), 210);
            is("nothing changes", x.count(7), 0);
            is("no COST", x.count(8), 0);
        });
        says("BAD", x -> {
            is("none, without LEAVES too", x.means(0), BAD);
            plains(x, 1);
            is("none", x.means(0), -1000000001L);
            is("too many", x.means(4), -1000000001L);
            is("far off", x.means(MIN), -1000000001L);
            is("far off", x.means(MAX), -1000000001L);
        });
        says("(Without LEAVES: 0.)", x -> {
            for (int n = 1; n <= 3; n++) {
                is("n " + n, x.means(n), 0);
            }
        });
    }

    private void gap() {
        promise(27);
        says("GAP for n (1 .. 2): what 0 how much, 1 the row (the LEAF", x -> {
            plains(x, 6, 6, 6);
            wants(x, 1, 2);
            is("how much of one", x.gap(1, 0), 0);
            is("the LEAF", x.gap(1, 1), 0);
            is("how much of two", x.gap(2, 0), 60);
            is("nothing changes", x.count(7), 2);
            same("nothing changes", order(x), "12");
        });
        says("of two: 10 times the first, and the second)", x -> {
            plains(x, 6, 6, 6);
            wants(x, 0, 2);
            x.rule(1);
            is("1 throws 0", x.gap(2, 1), 10);
            wants(x, 0);
            is("1 throws 2", x.gap(2, 1), 12);
            KeptLeaves y = new KeptLeaves();
            plains(y, 1, 1, 1, 1, 1, 1, 6, 7);
            y.space(7);
            wants(y, 6);
            is("7 throws 6", y.gap(2, 1), 76);
        });
        says("BAD", x -> {
            is("none, without LEAVES too", x.gap(0, 0), BAD);
            plains(x, 6);
            is("none", x.gap(0, 0), BAD);
            is("too many", x.gap(3, 0), BAD);
            is("below 0", x.gap(-1, 1), BAD);
            is("what below", x.gap(1, -1), BAD);
            is("what above", x.gap(2, 2), BAD);
            is("far off", x.gap(MAX, MIN), BAD);
        });
        says("NONE: there are no LEAVES", x -> {
            for (int n = 1; n <= 2; n++) {
                is("how much", x.gap(n, 0), NONE);
                is("the row", x.gap(n, 1), NONE);
            }
            plains(x, 1);
            is("there is one", x.gap(2, 1), 0);
        });
    }
}
