/** Part 5 of the terms from the image on, and promises 42 to 46: rows, images. */
final class ImageSentences extends Group {
    ImageSentences(Sentences document) {
        super(document);
    }

    @Override
    void all() {
        image();
        turnsTold();
        tell();
        check();
        keepAndBack();
        count();
    }

    private static void changeAll(KeptLeaves x) {
        x.leaf(5, 1, 1, 0);
        x.turns(0, 5);
        x.set(1, 0, 9);
        x.set(1, 1, 77);
        x.set(2, 2, 3);
        x.leans(1, NONE);
        x.out(0);
        wants(x, 3, 3);
        x.space(40);
        x.rule(2);
        x.care(0);
        x.clear();
        plans(x, 3, 2);
        x.seed(12345);
        x.trim(0);
        text(x, "throw 0-n");
        text(x, "room 3");
        text(x, "miss 5");
    }

    private void image() {
        part(5);
        says("AN IMAGE keeps all but SHEETS, SLOTS, numbers that wait, THE TAPE", x -> {
            KeptLeaves y = Scenes.rich();
            y.keep();
            changeAll(y);
            Due.toTape(y, "throw t+12");
            y.back();
            KeptLeaves z = Scenes.rich();
            z.keep();
            same("all is as it was", Scenes.seen(y), Scenes.seen(z));
            x.keep();
            x.sheet(0, 0, 1);
            x.mark(0, 0, 4);
            x.lay(0, 3, 5);
            tells(x, 1, 2);
            x.feed(1, 2, 3);
            x.back();
            same("SHEETS stay", places(x, 0, 1), "4");
            is("SLOTS stay", x.rest(0, 9), 5);
            is("numbers that wait stay", x.count(11), 2);
            is("THE TAPE stays", x.count(12), 12);
        });
        says("all can become as it is (again and again)", x -> {
            KeptLeaves y = Scenes.rich();
            y.keep();
            for (int i = 0; i < 3; i++) {
                changeAll(y);
                y.back();
            }
            Due.toTape(y, "throw t+12");
            KeptLeaves z = Scenes.rich();
            z.keep();
            same("all is as it was", Scenes.seen(y), Scenes.seen(z));
            KeptLeaves w = new KeptLeaves();
            plains(w, 3);
            text(w, "room 4");
            w.keep();
            text(w, "room 5");
            w.back();
            text(w, "miss 7");
            is("a TEXT of the IMAGE is not written over", w.told(0, 5), 4);
            w.back();
            is("a TEXT of the IMAGE is not written over", w.told(0, 5), 4);
            is("one that came behind it is gone", w.told(0, 6), 30);
            is("one TEXT", w.count(10), 1);
        });
    }

    private void turnsTold() {
        says("THE TURNS TOLD: n times, by THE IMAGE: AN ASKING for the LEAF that is a draw's rest by how many LEAVES there are:"
            + " 10 times that LEAF, and 1 if it is FOUND", x -> {
            // Behind 1 the draw gives 4310654: its rest by 1 is 0, by 2 is 0, by 3 is 2, by 8 is 6.
            int[] many = {1, 2, 3, 8};
            int[] leaves = {0, 0, 2, 6};
            for (int i = 0; i < 4; i++) {
                KeptLeaves y = new KeptLeaves();
                for (int leaf = 0; leaf < many[i]; leaf++) {
                    plain(y, 1, 1);
                }
                y.keep();
                tells(y, 10 * leaves[i], 1 << leaves[i]);
                is("of " + many[i], y.check(1), 0);
                wants(y, leaves[i]);
                y.keep();
                tells(y, 10 * leaves[i] + 1, 1 << leaves[i]);
                is("FOUND of " + many[i], y.check(1), 0);
            }
        });
        says("THE VAULT behind it, as bits", x -> {
            plains(x, 6);
            x.space(5);
            x.keep();
            tells(x, 0, 0);
            is("it doesn't fit", x.check(1), 0);
            KeptLeaves y = new KeptLeaves();
            plains(y, 6, 6, 6);
            wants(y, 0, 1);
            y.seed(1);
            y.keep();
            tells(y, 20, 6);
            is("one is thrown", y.check(1), 0);
        });
    }

    private void tell() {
        promise(42);
        says("One more number waits: how many", x -> {
            is("any", x.tell(MIN), 1);
            is("any", x.tell(MAX), 2);
            is("any", x.tell(NONE), 3);
            is("three wait", x.count(11), 3);
        });
        says("FULL: 60 wait", x -> {
            for (int i = 1; i <= 60; i++) {
                is("as many as 60", x.tell(0), i);
            }
            is("one more", x.tell(0), FULL);
            is("sixty", x.count(11), 60);
            x.check(0);
            is("none waits then", x.tell(0), 1);
        });
    }

    /** One LEAF in the image: first it comes in, then it is FOUND again and again. */
    private static KeptLeaves oneLeaf() {
        KeptLeaves x = new KeptLeaves();
        plains(x, 4);
        x.keep();
        return x;
    }

    private void check() {
        promise(43);
        says("The numbers that wait (none do then, whatever is answered) are THE TURNS TOLD of n (1 .. 30), two by two: 0", x -> {
            KeptLeaves y = oneLeaf();
            tells(y, 0, 1);
            is("the least n", y.check(1), 0);
            is("none waits then", y.count(11), 0);
            tells(y, 0, 1);
            for (int i = 1; i < 30; i++) {
                tells(y, 1, 1);
            }
            is("the greatest n", y.check(30), 0);
            tells(y, 5);
            is("not as told", y.check(1), 1);
            is("none waits then", y.count(11), 0);
            tells(y, 5);
            is("BAD", y.check(0), BAD);
            is("none waits then", y.count(11), 0);
            tells(x, 5);
            is("NO", x.check(1), NO);
            is("none waits then", x.count(11), 0);
        });
        says("else 1 and how many stand right ahead of the first that is not (or is missing, or one too many)", x -> {
            KeptLeaves y = oneLeaf();
            int[][] told = {{}, {7}, {0}, {0, 0}, {0, 1}, {0, 1, 0}, {0, 1, 1}, {0, 1, 1, 0}, {0, 1, 1, 1, 9}, {0, 1, 1, 1, 1, 1},
                {7, 1, 1, 1}, {0, 7, 1, 1}, {0, 1, 7, 1, 1, 1}};
            int[] due = {1, 1, 2, 2, 3, 3, 4, 4, 5, 5, 1, 2, 3};
            for (int i = 0; i < told.length; i++) {
                tells(y, told[i]);
                is("case " + i, y.check(2), due[i]);
            }
            for (int i = 0; i < 59; i++) {
                tells(y, i == 0 ? 0 : 1);
            }
            is("the last is missing", y.check(30), 60);
            for (int i = 0; i < 60; i++) {
                tells(y, i == 0 ? 0 : i == 59 ? 0 : 1);
            }
            is("the last is not", y.check(30), 60);
            for (int i = 0; i < 60; i++) {
                tells(y, i == 0 ? 0 : 1);
            }
            is("one too many of 29", y.check(29), 59);
        });
        says("BAD", x -> {
            KeptLeaves y = oneLeaf();
            is("none", y.check(0), BAD);
            is("below 0", y.check(-1), BAD);
            is("too many", y.check(31), BAD);
            is("far off", y.check(MIN), BAD);
            is("far off", y.check(MAX), BAD);
            is("ahead of NO", x.check(31), BAD);
        });
        says("NO: there is no IMAGE, or it has no LEAVES", x -> {
            is("no IMAGE", x.check(1), NO);
            plains(x, 1);
            is("no IMAGE, but LEAVES", x.check(1), NO);
            KeptLeaves y = new KeptLeaves();
            y.keep();
            plains(y, 1);
            is("an IMAGE without LEAVES", y.check(1), NO);
            y.keep();
            is("an IMAGE with one", y.check(1), 1);
        });
        says("THE TURNS TOLD of n", x -> {
            KeptLeaves y = oneLeaf();
            plains(y, 1, 1);
            wants(y, 0, 1);
            y.rule(3);
            y.space(1);
            y.seed(9);
            tells(y, 0, 1, 1, 1);
            is("by THE IMAGE, not as the object is", y.check(2), 0);
            tells(y, 0, 1, 1, 1);
            is("THE IMAGE stays", y.check(2), 0);
            is("the object stays", y.count(7), 2);
            is("the object stays", y.count(13), 9);
            y.back();
            is("TURN of THE IMAGE", y.count(7), 0);
            is("z of THE IMAGE", y.count(13), 1);
            is("THE VAULT of THE IMAGE", y.count(1), 0);
        });
    }

    private void keepAndBack() {
        promise(44);
        says("AN IMAGE is kept: how many LEAVES", x -> {
            is("none", x.keep(), 0);
            x.deal(8);
            is("eight", x.keep(), 8);
            is("again", x.keep(), 8);
            x.space(3);
            is("the last one that was kept", x.back(), 8);
            is("SPACE of it", x.count(4), 12);
        });
        promise(45);
        says("All is as THE IMAGE: how many LEAVES", x -> {
            x.keep();
            plains(x, 1, 1);
            is("none", x.back(), 0);
            is("none", x.count(0), 0);
            is("no LEAF", x.told(0, 0), BAD);
            plains(x, 2);
            is("a new one begins anew", x.told(0, 8), 0);
            KeptLeaves y = Scenes.full();
            y.keep();
            wants(y, 2, 3, 4);
            y.fire(20);
            is("eight", y.back(), 8);
            KeptLeaves z = Scenes.full();
            z.keep();
            same("all is as it was", Scenes.seen(y), Scenes.seen(z));
        });
        says("All is as THE IMAGE", x -> {
            // TIMES and LAST of a LEAF that is made anew at the number of one that was asked for.
            plains(x, 1);
            x.keep();
            plains(x, 1);
            wants(x, 1, 1);
            x.back();
            plains(x, 3);
            is("TIMES", x.told(1, 8), 0);
            is("LAST", x.told(1, 7), 0);
            is("WEIGHT", x.told(1, 3), 1);
            is("not in THE VAULT", x.told(1, 9), NONE);
            x.set(1, 2, 8);
            x.back();
            plains(x, 3);
            is("WEIGHT", x.told(1, 3), 1);
        });
        says("NO: there is none", x -> {
            plains(x, 1);
            is("none", x.back(), NO);
            is("all stays", x.count(0), 1);
            x.keep();
            is("there is one", x.back(), 1);
        });
    }

    private void count() {
        promise(46);
        says("How many: 0 LEAVES, 1 those in THE VAULT, 2 these as bits, 3 FULLNESS, 4 SPACE, 5 THE RULE, 6 CARE, 7 TURN, 8 COST,"
            + " 9 askings of THE ROW, 10 TEXTS, 11 numbers that wait, 12 bytes of THE TAPE, 13 z", x -> {
            plains(x, 1, 2, 3);
            wants(x, 2, 0, 2, 2);
            x.space(33);
            x.rule(4);
            x.care(1);
            plans(x, 1, 1, 1, 1, 1);
            for (int i = 0; i < 7; i++) {
                text(x, "room s");
            }
            for (int i = 0; i < 9; i++) {
                x.tell(0);
            }
            x.feed(0, 0, 0);
            x.trim(11);
            x.seed(-13);
            int[] due = {3, 2, 5, 4, 33, 4, 1, 4, 40, 5, 7, 9, 11, -13};
            for (int what = 0; what < 14; what++) {
                is("count " + what, x.count(what), due[what]);
            }
            KeptLeaves y = Scenes.full();
            int[] full = {8, -1, -1, -1, 12, 0, 0, 4, -1, 24, 14, 60, 96, 1};
            for (int what = 0; what < 14; what++) {
                if (full[what] >= 0) {
                    is("of a full one " + what, y.count(what), full[what]);
                }
            }
        });
        says("BAD", x -> {
            is("below", x.count(-1), BAD);
            is("above", x.count(14), BAD);
            is("far off", x.count(MIN), BAD);
            is("far off", x.count(MAX), BAD);
        });
    }
}
