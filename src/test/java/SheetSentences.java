/** Part 5 of the terms up to its findings, and promises 33 to 41: sheets, slots. */
final class SheetSentences extends Group {
    SheetSentences(Sentences document) {
        super(document);
    }

    @Override
    void all() {
        sheets();
        slots();
        findings();
        sheet();
        mark();
        pour();
        reads();
        copy();
        lay();
        ask();
        item();
        rest();
    }

    private void sheets() {
        part(5);
        says("SHEETS 0 .. 3 are rows of shorts (sort 0) or floats (1", x -> {
            is("below", x.sheet(-1, 0, 1), BAD);
            is("above", x.sheet(4, 0, 1), BAD);
            is("the first", x.sheet(0, 0, 1), 1);
            is("the last", x.sheet(3, 1, 1), 1);
            is("no sort", x.sheet(1, 2, 1), BAD);
            x.mark(0, 0, 40000);
            x.mark(3, 0, 40000);
            same("shorts", places(x, 0, 1), "-25536");
            same("floats", places(x, 3, 1), "40000");
        });
        says("whole numbers), with 0 to 24 places, or MISSING (at first)", x -> {
            for (int i = 0; i < 4; i++) {
                is("at first", x.pour(i), NOTHING);
            }
            for (int sort = 0; sort < 2; sort++) {
                is("none", x.sheet(sort, sort, 0), 0);
                is("no place", x.mark(sort, 0, 1), INDEX);
                is("24", x.sheet(sort, sort, 24), 24);
                is("the last place", x.mark(sort, 23, 1), 1);
                is("none behind it", x.mark(sort, 24, 1), INDEX);
                is("25", x.sheet(sort, sort, 25), BAD);
            }
            is("no places, but not MISSING", x.pour(1), 0);
        });
        says("A place of floats may be NO NUMBER", x -> {
            x.sheet(0, 1, 2);
            same("not at first", places(x, 0, 2), "0 0");
            is("becomes it", x.mark(0, 1, NONE), 1);
            same("it is", places(x, 0, 2), "0 -");
            x.sheet(1, 0, 2);
            is("not of shorts", x.mark(1, 1, NONE), KIND);
        });
    }

    private void slots() {
        says("SLOTS 0 .. 4 each hold nothing (at first)", x -> {
            is("below", x.lay(-1, 3, 1), BAD);
            is("above", x.lay(5, 3, 1), BAD);
            for (int slot = 0; slot < 5; slot++) {
                is("at first", x.rest(slot, 9), NOTHING);
                is("at first", x.lay(slot, 3, slot), 0);
            }
            for (int slot = 0; slot < 5; slot++) {
                is("each by itself", x.rest(slot, 9), slot);
            }
        });
        says("a LEAF (as it is then, for good)", x -> {
            x.leaf(4, 3, 40, NONE);
            x.set(0, 2, 5);
            x.lay(0, 1, 0);
            is("at once", x.ask(0, 4), 26);
            x.set(0, 0, 9);
            x.set(0, 1, 99);
            x.set(0, 2, 9);
            x.turns(0, 1);
            is("as it was then", x.ask(0, 4), 26);
            is("of the KIND that it was", x.ask(0, 1), KIND);
            x.keep();
            x.back();
            is("for good", x.ask(0, 2), 26);
            KeptLeaves y = new KeptLeaves();
            y.keep();
            plain(y, 3, 40);
            y.lay(0, 1, 0);
            y.back();
            is("no LEAF any more", y.told(0, 0), BAD);
            is("still there", y.ask(0, 0), 43);
        });
        says("a SHEET (a row of its own, as it was then), or a number", x -> {
            x.sheet(0, 1, 2);
            marks(x, 0, 7, NONE);
            x.lay(0, 2, 0);
            x.lay(1, 2, 0);
            marks(x, 0, 8, 9);
            is("as it was", x.item(0, 0), 7);
            is("as it was", x.item(0, 1), KIND);
            x.sheet(0, -1, 0);
            is("whatever becomes of the SHEET", x.item(0, 0), 7);
            x.sheet(0, 0, 24);
            is("as many places as it had", x.item(0, 2), INDEX);
            x.lay(0, 3, MIN);
            is("a number", x.rest(0, MAX), -1);
            is("the other one has a row of its own", x.item(1, 0), 7);
        });
    }

    private void findings() {
        says("FINDINGS: NOTHING: a SHEET is MISSING, a SLOT holds nothing", x -> {
            is("the constant", KeptLeaves.NOTHING, -1000000011);
            is("mark", x.mark(0, 0, 0), NOTHING);
            is("pour", x.pour(0), NOTHING);
            is("reads", x.reads(0), NOTHING);
            is("copy", x.copy(0, 0, 0, 0, 0), NOTHING);
            is("lay", x.lay(0, 2, 0), NOTHING);
            is("ask", x.ask(0, 0), NOTHING);
            is("item", x.item(0, 0), NOTHING);
            is("rest", x.rest(0, 1), NOTHING);
        });
        says("INDEX: there is no such place", x -> {
            is("the constant", KeptLeaves.INDEX, -1000000013);
            x.sheet(0, 0, 2);
            x.lay(0, 2, 0);
            is("mark", x.mark(0, 2, 0), INDEX);
            is("copy", x.copy(0, 2, 0, 0, 1), INDEX);
            is("item", x.item(0, 2), INDEX);
        });
        says("SIZE: a number of places is below 0", x -> {
            is("the constant", KeptLeaves.SIZE, -1000000014);
            is("sheet", x.sheet(0, 0, -1), SIZE);
            is("the least int", x.sheet(0, 1, MIN), SIZE);
            is("not 0", x.sheet(0, 0, 0), 0);
        });
        says("KIND: it is none (of a KIND, a number, or another thing)", x -> {
            is("the constant", KeptLeaves.KIND, -1000000012);
            plain(x, 1, 1);
            x.sheet(0, 0, 1);
            x.sheet(1, 1, 1);
            x.mark(1, 0, NONE);
            x.lay(0, 1, 0);
            x.lay(1, 2, 1);
            x.lay(2, 3, 5);
            is("as", x.as(0, 1), KIND);
            is("mark", x.mark(0, 0, NONE), KIND);
            is("copy", x.copy(0, 0, 1, 0, 1), KIND);
            is("ask of a SHEET", x.ask(1, 0), KIND);
            is("ask of a KIND", x.ask(0, 1), KIND);
            is("item of a LEAF", x.item(0, 0), KIND);
            is("item that is NO NUMBER", x.item(1, 0), KIND);
            is("rest of a LEAF", x.rest(0, 1), KIND);
        });
    }

    private void sheet() {
        promise(33);
        says("A SHEET becomes a row of n places of a sort, all 0 (sort -1: MISSING, n any): n (0)", x -> {
            x.sheet(0, 1, 24);
            for (int i = 0; i < 24; i++) {
                x.mark(0, i, i == 5 ? NONE : 9);
            }
            is("fewer", x.sheet(0, 0, 3), 3);
            same("all 0", places(x, 0, 3), "0 0 0");
            is("no more than these", x.mark(0, 3, 1), INDEX);
            is("more", x.sheet(0, 1, 24), 24);
            StringBuilder zeros = new StringBuilder("0");
            for (int i = 1; i < 24; i++) {
                zeros.append(" 0");
            }
            same("all 0", places(x, 0, 24), zeros.toString());
            is("none", x.sheet(0, 0, 0), 0);
            is("there", x.pour(0), 0);
            int[] any = {0, 25, -1, MIN, MAX};
            for (int n : any) {
                x.sheet(0, 0, 1);
                is("MISSING", x.sheet(0, -1, n), 0);
                is("MISSING", x.pour(0), NOTHING);
            }
            is("MISSING again", x.sheet(0, -1, 5), 0);
        });
        says("BAD: sheet, sort, n above 24", x -> {
            x.sheet(0, 0, 2);
            marks(x, 0, 4, 5);
            is("sheet below", x.sheet(-1, 0, 1), BAD);
            is("sheet above", x.sheet(4, 0, 1), BAD);
            is("sheet above, MISSING", x.sheet(4, -1, 1), BAD);
            is("sort below", x.sheet(0, -2, 1), BAD);
            is("sort above", x.sheet(0, 2, 1), BAD);
            is("n above 24", x.sheet(0, 0, 25), BAD);
            is("n far above 24", x.sheet(0, 1, MAX), BAD);
            same("stays", places(x, 0, 2), "4 5");
        });
        says("SIZE", x -> {
            x.sheet(0, 0, 2);
            marks(x, 0, 4, 5);
            is("just below 0", x.sheet(0, 0, -1), SIZE);
            is("far below 0", x.sheet(0, 1, MIN), SIZE);
            is("BAD first", x.sheet(4, 1, -1), BAD);
            is("BAD first", x.sheet(0, 2, -1), BAD);
            same("stays", places(x, 0, 2), "4 5");
        });
    }

    private void mark() {
        promise(34);
        says("A place of a SHEET becomes v (of shorts its lowest 16 bits", x -> {
            x.sheet(0, 0, 8);
            int[] values = {32767, 32768, -32768, -32769, 65535, 65536, MAX, MIN};
            for (int i = 0; i < 8; i++) {
                is("any", x.mark(0, i, values[i]), 1);
            }
            same("lowest 16 bits", places(x, 0, 8), "32767 -32768 -32768 32767 -1 0 -1 0");
            is("beside NONE", x.mark(0, 0, NONE + 1), 1);
            // -1000000004 and 15259 times 65536 are 13820.
            same("lowest 16 bits", places(x, 0, 1), "13820");
        });
        says("of floats v, -99999 .. 99999", x -> {
            x.sheet(0, 1, 3);
            is("the greatest", x.mark(0, 0, 99999), 1);
            is("the least", x.mark(0, 1, -99999), 1);
            is("0", x.mark(0, 2, 0), 1);
            same("as they are", places(x, 0, 3), "99999 -99999 0");
        });
        says("NONE: NO NUMBER): 1", x -> {
            x.sheet(0, 1, 2);
            x.mark(0, 0, 3);
            is("NO NUMBER", x.mark(0, 0, NONE), 1);
            same("it is", places(x, 0, 2), "- 0");
            is("a number again", x.mark(0, 0, 5), 1);
            same("it is", places(x, 0, 2), "5 0");
        });
        says("BAD: sheet", x -> {
            is("below", x.mark(-1, 0, 1), BAD);
            is("above", x.mark(4, 0, 1), BAD);
            is("far off", x.mark(MIN, MIN, MIN), BAD);
        });
        says("NOTHING", x -> {
            is("at first", x.mark(3, 0, 1), NOTHING);
            is("ahead of INDEX", x.mark(3, -1, NONE), NOTHING);
            x.sheet(3, 1, 1);
            x.sheet(3, -1, 0);
            is("again", x.mark(3, 0, 1), NOTHING);
        });
        says("INDEX", x -> {
            x.sheet(0, 0, 24);
            x.sheet(1, 1, 2);
            x.sheet(2, 0, 0);
            is("the last", x.mark(0, 23, 1), 1);
            is("behind the last", x.mark(0, 24, 1), INDEX);
            is("behind the last", x.mark(1, 2, 1), INDEX);
            is("below", x.mark(0, -1, 1), INDEX);
            is("of no places", x.mark(2, 0, 1), INDEX);
            is("far off", x.mark(0, MAX, 1), INDEX);
            is("ahead of KIND", x.mark(0, 24, NONE), INDEX);
            is("ahead of BAD", x.mark(1, 2, 100000), INDEX);
        });
        says("KIND: NONE in a row of shorts", x -> {
            x.sheet(0, 0, 1);
            x.mark(0, 0, 6);
            is("NONE", x.mark(0, 0, NONE), KIND);
            same("stays", places(x, 0, 1), "6");
        });
        says("BAD: v of floats", x -> {
            x.sheet(0, 1, 1);
            x.mark(0, 0, 6);
            is("too small", x.mark(0, 0, -100000), BAD);
            is("too large", x.mark(0, 0, 100000), BAD);
            is("far off", x.mark(0, 0, MAX), BAD);
            is("beside NONE", x.mark(0, 0, NONE + 1), BAD);
            is("beside NONE", x.mark(0, 0, NONE - 1), BAD);
            same("stays", places(x, 0, 1), "6");
        });
    }

    private void pour() {
        promise(35);
        says("Askings come to THE ROW from a SHEET, place by place from 0 on, up to the first that is no LEAF (or NO NUMBER),"
            + " or for which there is no room: how many", x -> {
            plains(x, 7, 6);
            x.sheet(0, 0, 4);
            marks(x, 0, 1, 0, 2, 1);
            is("up to one too large", x.pour(0), 2);
            is("in their order", x.run(1), 60);
            x.mark(0, 2, -1);
            is("up to one below 0", x.pour(0), 2);
            is("behind those that were there", x.count(9), 4);
            x.mark(0, 0, 2);
            is("the first is none", x.pour(0), 0);
            x.sheet(1, 1, 3);
            marks(x, 1, 1, NONE, 1);
            is("up to NO NUMBER", x.pour(1), 1);
            x.sheet(2, 0, 0);
            is("no places", x.pour(2), 0);
            x.sheet(3, 0, 24);
            is("as there is room", x.pour(3), 19);
            is("no room", x.pour(3), 0);
            is("full", x.count(9), 24);
            x.clear();
            is("all", x.pour(3), 24);
            KeptLeaves y = new KeptLeaves();
            y.sheet(0, 0, 3);
            is("no LEAVES", y.pour(0), 0);
        });
        says("BAD", x -> {
            is("below", x.pour(-1), BAD);
            is("above", x.pour(4), BAD);
            is("far off", x.pour(MAX), BAD);
        });
        says("NOTHING", x -> {
            is("at first", x.pour(3), NOTHING);
            x.sheet(3, 0, 3);
            x.sheet(3, -1, 3);
            is("again", x.pour(3), NOTHING);
        });
    }

    private void reads() {
        promise(36);
        says("The first place (of numbers alone) at which a SHEET is not TIMES of that LEAF", x -> {
            plains(x, 1, 1, 1);
            wants(x, 0, 1, 1, 2, 2, 2);
            x.sheet(0, 1, 3);
            marks(x, 0, 1, 2, 3);
            is("all are", x.reads(0), NONE);
            marks(x, 0, 1, 9, 9);
            is("the first of two", x.reads(0), 1);
            marks(x, 0, 0, 2, 3);
            is("the first place", x.reads(0), 0);
            marks(x, 0, NONE, NONE, 4);
            is("of numbers alone", x.reads(0), 2);
            marks(x, 0, NONE, NONE, NONE);
            is("no numbers", x.reads(0), NONE);
            x.sheet(1, 0, 2);
            marks(x, 1, 1, 2 + 65536);
            is("by 16 bits", x.reads(1), NONE);
        });
        says("(of places that are no LEAF all numbers are not)", x -> {
            x.sheet(0, 1, 3);
            is("no LEAVES: 0 is a number", x.reads(0), 0);
            plains(x, 1, 1);
            is("behind the last LEAF", x.reads(0), 2);
            x.mark(0, 2, NONE);
            is("NO NUMBER there", x.reads(0), NONE);
            chain(x, 6);
            x.sheet(1, 0, 9);
            is("place 8 is no LEAF", x.reads(1), 8);
            x.sheet(1, 0, 8);
            is("place 7 is one", x.reads(1), NONE);
        });
        says("BAD", x -> {
            is("below", x.reads(-1), BAD);
            is("above", x.reads(4), BAD);
            is("far off", x.reads(MIN), BAD);
        });
        says("NOTHING", x -> {
            is("at first", x.reads(3), NOTHING);
            x.sheet(3, 1, 1);
            x.sheet(3, -1, 1);
            is("again", x.reads(3), NOTHING);
        });
        says("NONE: there is none", x -> {
            x.sheet(0, 0, 0);
            is("no places", x.reads(0), NONE);
            plains(x, 1, 1);
            x.sheet(0, 0, 1);
            is("fewer places than LEAVES", x.reads(0), NONE);
            wants(x, 1);
            is("fewer places than LEAVES", x.reads(0), NONE);
        });
    }

    private void copy() {
        promise(37);
        says("So many places of a SHEET come to another one (or the same), as they were: many", x -> {
            x.sheet(0, 1, 5);
            x.sheet(1, 1, 3);
            marks(x, 0, 1, NONE, 3, 4, 5);
            is("all that fit", x.copy(0, 0, 1, 0, 3), 3);
            same("with NO NUMBER", places(x, 1, 3), "1 - 3");
            same("the other one stays", places(x, 0, 5), "1 - 3 4 5");
            is("the last one", x.copy(0, 4, 1, 2, 1), 1);
            same("the last one", places(x, 1, 3), "1 - 5");
            is("none", x.copy(0, 0, 1, 0, 0), 0);
            is("none, behind the last", x.copy(0, 5, 1, 3, 0), 0);
            same("none came", places(x, 1, 3), "1 - 5");
            is("the same one, up", x.copy(0, 0, 0, 1, 4), 4);
            same("as they were", places(x, 0, 5), "1 1 - 3 4");
            is("the same one, down", x.copy(0, 1, 0, 0, 4), 4);
            same("as they were", places(x, 0, 5), "1 - 3 4 4");
            is("the same places", x.copy(0, 0, 0, 0, 5), 5);
            same("as they were", places(x, 0, 5), "1 - 3 4 4");
            x.sheet(2, 0, 2);
            x.sheet(3, 0, 2);
            marks(x, 2, -7, 8);
            is("shorts", x.copy(2, 0, 3, 0, 2), 2);
            same("shorts", places(x, 3, 2), "-7 8");
            x.sheet(2, 0, 0);
            is("none of no places", x.copy(2, 0, 2, 0, 0), 0);
        });
        says("BAD", x -> {
            x.sheet(0, 0, 2);
            is("from below", x.copy(-1, 0, 0, 0, 1), BAD);
            is("from above", x.copy(4, 0, 0, 0, 1), BAD);
            is("to below", x.copy(0, 0, -1, 0, 1), BAD);
            is("to above", x.copy(0, 0, 4, 0, 1), BAD);
            is("ahead of NOTHING", x.copy(1, 0, 4, 0, 1), BAD);
            is("ahead of INDEX", x.copy(4, -1, 0, -1, -1), BAD);
        });
        says("NOTHING", x -> {
            x.sheet(0, 0, 2);
            is("from", x.copy(3, 0, 0, 0, 1), NOTHING);
            is("to", x.copy(0, 0, 3, 0, 1), NOTHING);
            is("both", x.copy(2, 0, 3, 0, 1), NOTHING);
            is("no places", x.copy(0, 0, 3, 0, 0), NOTHING);
            is("ahead of INDEX", x.copy(0, 9, 3, 9, 9), NOTHING);
        });
        says("KIND: they are not of one sort", x -> {
            x.sheet(0, 0, 2);
            x.sheet(1, 1, 2);
            is("shorts to floats", x.copy(0, 0, 1, 0, 1), KIND);
            is("floats to shorts", x.copy(1, 0, 0, 0, 1), KIND);
            is("no places", x.copy(1, 0, 0, 0, 0), KIND);
            is("ahead of INDEX", x.copy(1, 9, 0, 9, -1), KIND);
        });
        says("INDEX", x -> {
            x.sheet(0, 0, 4);
            x.sheet(1, 0, 3);
            marks(x, 0, 5, 6, 7, 8);
            int[][] index = {{-1, 0, 1}, {0, -1, 1}, {4, 0, 1}, {0, 3, 1}, {0, 0, 4}, {2, 0, 3}, {0, 1, 3}, {5, 0, 0}, {0, 4, 0}, {-1, 0, 0},
                {0, -1, 0}, {0, 0, -1}, {1, 1, -1}, {0, 0, MIN}, {MAX, 0, 1}, {0, MAX, 1}, {1, 1, MAX}, {MAX, MAX, MAX}, {MIN, MIN, MIN}};
            for (int[] i : index) {
                is("place " + i[0] + ", at " + i[1] + ", many " + i[2], x.copy(0, i[0], 1, i[1], i[2]), INDEX);
            }
            same("none came", places(x, 1, 3), "0 0 0");
            is("all of it", x.copy(0, 1, 1, 0, 3), 3);
        });
        says("(From a SHEET, its place, to a SHEET, its place.)", x -> {
            x.sheet(0, 0, 4);
            x.sheet(1, 0, 4);
            marks(x, 0, 1, 2, 3, 4);
            x.copy(0, 3, 1, 1, 1);
            same("from place 3 to place 1", places(x, 1, 4), "0 4 0 0");
            same("the other one stays", places(x, 0, 4), "1 2 3 4");
        });
    }

    private void lay() {
        promise(38);
        says("A SLOT holds: thing 0 nothing, 1 LEAF k, 2 SHEET k, 3 the number k: what it held (0 .. 3)", x -> {
            plains(x, 2, 3);
            x.sheet(3, 0, 1);
            x.mark(3, 0, 6);
            is("a LEAF behind nothing", x.lay(4, 1, 1), 0);
            is("LEAF 1", x.ask(4, 0), 33);
            is("a SHEET behind a LEAF", x.lay(4, 2, 3), 1);
            is("SHEET 3", x.item(4, 0), 6);
            is("a number behind a SHEET", x.lay(4, 3, MIN), 2);
            is("the number", x.rest(4, -1000), MIN % -1000);
            is("nothing behind a number", x.lay(4, 0, MAX), 3);
            is("nothing", x.rest(4, 1), NOTHING);
            is("nothing behind nothing, k any", x.lay(4, 0, -1), 0);
            int[] numbers = {MAX, 0, -1, NONE, BAD};
            for (int number : numbers) {
                x.lay(0, 3, number);
                is("the number, k any", x.rest(0, MIN), number);
            }
        });
        says("BAD: slot, thing, k", x -> {
            plains(x, 2);
            x.sheet(0, 0, 1);
            x.lay(0, 3, 5);
            is("slot below", x.lay(-1, 0, 0), BAD);
            is("slot above", x.lay(5, 0, 0), BAD);
            is("thing below", x.lay(0, -1, 0), BAD);
            is("thing above", x.lay(0, 4, 0), BAD);
            is("LEAF below", x.lay(0, 1, -1), BAD);
            is("LEAF above", x.lay(0, 1, 1), BAD);
            is("LEAF NONE", x.lay(0, 1, NONE), BAD);
            is("SHEET below", x.lay(0, 2, -1), BAD);
            is("SHEET above", x.lay(0, 2, 4), BAD);
            is("stays", x.rest(0, 9), 5);
        });
        says("NOTHING: that SHEET is MISSING", x -> {
            x.lay(0, 3, 5);
            is("at first", x.lay(0, 2, 3), NOTHING);
            is("stays", x.rest(0, 9), 5);
            is("BAD first", x.lay(5, 2, 3), BAD);
            x.sheet(3, 0, 0);
            is("of no places", x.lay(0, 2, 3), 3);
            is("of no places", x.item(0, 0), INDEX);
        });
    }

    private void ask() {
        promise(39);
        says("WORTH of the LEAF in a SLOT, taken for one of a KIND (0 .. 5)", x -> {
            int[][] due = {{43, KIND, KIND, KIND, KIND, KIND}, {53, 53, KIND, KIND, KIND, KIND}, {21, KIND, 21, KIND, KIND, KIND},
                {50, 50, KIND, 50, KIND, KIND}, {22, KIND, 22, KIND, 22, KIND}, {7, KIND, KIND, KIND, KIND, 7}};
            for (int kind = 0; kind < 6; kind++) {
                x.leaf(kind, 3, 40, NONE);
                x.lay(0, 1, kind);
                for (int taken = 0; taken < 6; taken++) {
                    is(kind + " taken for " + taken, x.ask(0, taken), due[kind][taken]);
                }
            }
        });
        says("BAD", x -> {
            plains(x, 1);
            x.lay(0, 1, 0);
            is("slot below", x.ask(-1, 0), BAD);
            is("slot above", x.ask(5, 0), BAD);
            is("kind below", x.ask(0, -1), BAD);
            is("kind above", x.ask(0, 6), BAD);
            is("ahead of NOTHING", x.ask(1, 6), BAD);
            x.lay(1, 3, 1);
            is("ahead of KIND", x.ask(1, -1), BAD);
        });
        says("NOTHING", x -> {
            is("at first", x.ask(4, 0), NOTHING);
            x.lay(4, 3, 1);
            x.lay(4, 0, 0);
            is("again", x.ask(4, 5), NOTHING);
        });
        says("KIND: it is no LEAF, or not of that KIND, nor of one under it", x -> {
            x.lay(0, 3, 0);
            is("a number", x.ask(0, 0), KIND);
            x.sheet(0, 0, 1);
            x.lay(0, 2, 0);
            is("a SHEET", x.ask(0, 0), KIND);
            x.leaf(1, 1, 1, NONE);
            x.lay(0, 1, 0);
            is("beside it", x.ask(0, 2), KIND);
            is("under it", x.ask(0, 3), KIND);
            is("above it", x.ask(0, 0), 12);
        });
    }

    private void item() {
        promise(40);
        says("A place of the SHEET in a SLOT", x -> {
            x.sheet(0, 0, 24);
            x.mark(0, 0, -5);
            x.mark(0, 23, 7);
            x.lay(2, 2, 0);
            is("the first", x.item(2, 0), -5);
            is("the last", x.item(2, 23), 7);
            is("between", x.item(2, 1), 0);
        });
        says("BAD: slot", x -> {
            is("below", x.item(-1, 0), BAD);
            is("above", x.item(5, 0), BAD);
            is("ahead of INDEX", x.item(MAX, -1), BAD);
        });
        says("NOTHING", x -> {
            is("at first", x.item(4, 0), NOTHING);
            is("ahead of INDEX", x.item(4, -1), NOTHING);
            x.sheet(0, 0, 1);
            x.lay(4, 2, 0);
            x.lay(4, 0, 0);
            is("again", x.item(4, 0), NOTHING);
        });
        says("KIND: it is no SHEET", x -> {
            plains(x, 1);
            x.lay(0, 1, 0);
            is("a LEAF", x.item(0, 0), KIND);
            is("ahead of INDEX", x.item(0, -1), KIND);
            x.lay(0, 3, 0);
            is("a number", x.item(0, 0), KIND);
            is("ahead of INDEX", x.item(0, 24), KIND);
        });
        says("INDEX", x -> {
            x.sheet(0, 1, 2);
            x.mark(0, 1, NONE);
            x.lay(0, 2, 0);
            is("behind the last", x.item(0, 2), INDEX);
            is("below", x.item(0, -1), INDEX);
            is("far off", x.item(0, MIN), INDEX);
            is("far off", x.item(0, MAX), INDEX);
            x.sheet(0, 0, 0);
            x.lay(0, 2, 0);
            is("no places", x.item(0, 0), INDEX);
        });
        says("KIND: NO NUMBER", x -> {
            x.sheet(0, 1, 2);
            x.mark(0, 1, NONE);
            x.lay(0, 2, 0);
            is("NO NUMBER", x.item(0, 1), KIND);
            is("a number", x.item(0, 0), 0);
        });
    }

    private void rest() {
        promise(41);
        says("The rest of the number in a SLOT by n", x -> {
            int[][] due = {{17, 5, 2}, {17, -5, 2}, {-17, 5, -2}, {-17, -5, -2}, {17, 17, 0}, {17, 18, 17}, {0, 7, 0}, {5, 1, 0}, {5, -1, 0},
                {MIN, -1, 0}, {MIN, 1, 0}, {MIN, MIN, 0}, {MAX, MIN, MAX}, {MIN, MAX, -1}, {MAX, 2, 1}, {MIN, 3, -2}};
            for (int[] d : due) {
                x.lay(0, 3, d[0]);
                is(d[0] + " by " + d[1], x.rest(0, d[1]), d[2]);
            }
        });
        says("BAD: slot", x -> {
            is("below", x.rest(-1, 1), BAD);
            is("above", x.rest(5, 1), BAD);
            is("ahead of NO", x.rest(5, 0), BAD);
        });
        says("NOTHING", x -> {
            is("at first", x.rest(4, 1), NOTHING);
            is("ahead of NO", x.rest(4, 0), NOTHING);
        });
        says("KIND: it is no number", x -> {
            plains(x, 1);
            x.lay(0, 1, 0);
            is("a LEAF", x.rest(0, 1), KIND);
            is("ahead of NO", x.rest(0, 0), KIND);
            x.sheet(0, 0, 1);
            x.lay(0, 2, 0);
            is("a SHEET", x.rest(0, 1), KIND);
        });
        says("NO: n is 0", x -> {
            x.lay(0, 3, 17);
            is("0", x.rest(0, 0), NO);
            x.lay(0, 3, 0);
            is("0 by 0", x.rest(0, 0), NO);
            is("it stays", x.rest(0, 3), 0);
        });
    }
}
