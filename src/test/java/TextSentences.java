/** Part 4 of the terms, and promises 28 to 32: texts. */
final class TextSentences extends Group {
    TextSentences(Sentences document) {
        super(document);
    }

    @Override
    void all() {
        tape();
        grammar();
        pieces();
        names();
        words();
        faults();
        values();
        feedAndTrim();
        text();
        textToldAndWhy();
    }

    private void tape() {
        part(4);
        says("TEXTS, 14 at most, numbered from 0", x -> {
            for (int i = 0; i < 14; i++) {
                is("text " + i, text(x, "room " + (i + 1)), i);
            }
            is("a fifteenth", text(x, "room 1"), FULL);
            is("fourteen", x.count(10), 14);
            is("the last is told", x.textTold(13, 0), 0);
            is("no fifteenth is told", x.textTold(14, 0), BAD);
            is("the last counts", x.why(0), 13);
        });
        says("from THE TAPE (96 bytes at most", x -> {
            for (int i = 1; i <= 8; i++) {
                is("feed", x.feed(0x20202020, 0x20202020, 0x20202020), 12 * i);
            }
            is("more", x.feed(0, 0, 0), FULL);
            is("96", x.count(12), 96);
            is("the fault is at the end of all", x.text(), -196);
        });
        says("an act that reads it uses it up, whatever it answers): KEY E", x -> {
            String[] tapes = {"room s", "room", "", "s", "room s room s"};
            for (String tape : tapes) {
                text(x, tape);
                is("behind '" + tape + "'", x.count(12), 0);
                is("behind that it is empty", x.text(), -100);
            }
            for (int i = 1; i < 14; i++) {
                text(x, "room 1");
            }
            is("FULL", text(x, "room 1"), FULL);
            is("behind FULL", x.count(12), 0);
        });
    }

    private void grammar() {
        says("KEY: room | miss | throw", x -> {
            String[] keys = {"room", "miss", "throw"};
            for (int i = 0; i < 3; i++) {
                is(keys[i], text(x, keys[i] + " 1"), i);
                is("its KEY", x.textTold(i, 0), i);
            }
            String[] others = {"rooms 1", "roo 1", "Room 1", "throws 1", "mis 1", "missl", "roomroom 1", "1 room", "s", "(room 1)", "!room 1", "+", "\u0000"};
            for (String other : others) {
                is("'" + other + "'", fault(other), 0);
            }
            is("two of them", fault("room miss 1"), 5);
        });
        says("E, the loosest first: OR: AND { | AND }", x -> {
            is("looser than &", value("1|0&0"), 1);
            is("looser than &", value("0&0|1"), 1);
            is("looser than <", value("7|1<1"), 1);
            is("many", value("0|0|0|0|0|3"), 1);
            is("none", value("7"), 7);
            is("nothing ahead", fault("miss |1"), 5);
            is("nothing behind", fault("miss 1|"), 7);
            is("two", fault("miss 1||1"), 7);
        });
        says("AND: TEST { & TEST }", x -> {
            is("looser than =", value("2=2&3"), 1);
            is("looser than =", value("3&2=2"), 1);
            is("many", value("1&2&3&0&5"), 0);
            is("nothing ahead", fault("miss &1"), 5);
            is("nothing behind", fault("miss 1&"), 7);
            is("two", fault("miss 1&&1"), 7);
        });
        says("TEST: SUM [ (< | = | >) SUM ]", x -> {
            is("looser than +", value("1+1<1+2"), 1);
            is("looser than -", value("5=7-2"), 1);
            is("one at most", fault("miss 1<2<3"), 8);
            is("one at most", fault("miss 1<2=3"), 8);
            is("one at most", fault("miss 1=2>3"), 8);
            is("one more within (", value("1<(2<3)"), 0);
            is("one more behind &", value("1<2&2<3"), 1);
            is("one more behind |", value("2<1|2<3"), 1);
            is("nothing behind", fault("miss 1<"), 7);
            is("no sign of two", fault("miss 1<=2"), 7);
            is("no sign of two", fault("miss 1<>2"), 7);
            is("nothing ahead", fault("miss =1"), 5);
        });
        says("SUM: TERM { (+ | -) TERM }", x -> {
            is("from the left on", value("9-3-2"), 4);
            is("from the left on", value("9-3+2"), 8);
            is("looser than *", value("2+3*4"), 14);
            is("looser than /", value("20-8/4"), 18);
            is("nothing ahead of +", fault("miss +1"), 5);
            is("nothing ahead of -", fault("miss -1"), 5);
            is("nothing behind", fault("miss 1-"), 7);
            is("two", fault("miss 1--1"), 7);
        });
        says("TERM: PIECE { (* | /) PIECE }", x -> {
            is("from the left on", value("60/4/3"), 5);
            is("from the left on", value("60/4*3"), 45);
            is("from the left on", value("7*3/2"), 10);
            is("nothing ahead", fault("miss *1"), 5);
            is("nothing behind", fault("miss 1/"), 7);
            is("two", fault("miss 1*/1"), 7);
            is("! is tighter", value("!0*5"), 5);
        });
    }

    private void pieces() {
        says("PIECE: NUMBER (1 to 4 digits) | NAME | ! PIECE | ( E )", x -> {
            is("1 digit", value("7"), 7);
            is("2 digits", value("77"), 77);
            is("4 digits", value("9999/100"), 99);
            is("4 digits with zeros ahead", value("0007"), 7);
            is("5 digits", fault("miss 10000"), 5);
            is("5 digits with zeros ahead", fault("miss 00007"), 5);
            is("0", value("0"), 0);
            is("NAME", value("l"), 20);
            is("!", value("!l"), 0);
            is("( )", value("(l)"), 20);
            is("! ( )", value("!(0)"), 1);
            is("nothing in ( )", fault("miss ()"), 6);
            is("no PIECE behind !", fault("miss !"), 6);
            is("no PIECE behind !", fault("miss !+1"), 6);
            is("all of E in ( )", value("(0|1&2<3+4*5)"), 1);
            is("not closed", fault("miss (1"), 7);
            is("closed too often", fault("miss (1))"), 8);
            is("two in a row", fault("miss 1 2"), 7);
            is("two in a row", fault("miss (1)(2)"), 8);
            is("! behind a PIECE", fault("miss 1!"), 6);
        });
    }

    private void names() {
        says("NAMES, each one letter: of room s SIZE, n the number of the LEAF", x -> {
            plains(x, 4, 4, 4);
            text(x, "room s+n");
            for (int leaf = 0; leaf < 3; leaf++) {
                is("s and n", x.told(leaf, 5), 4 + leaf);
            }
            is("two letters", fault("room ss"), 5);
            is("two letters", fault("room sn"), 5);
            for (char letter = 'a'; letter <= 'z'; letter++) {
                is("" + letter, fault("room " + letter), letter == 's' || letter == 'n' ? -1 : 5);
            }
        });
        says("of miss l LOSS, n, s", x -> {
            plains(x, 4, 4, 4);
            text(x, "miss l+100*n+s");
            for (int leaf = 0; leaf < 3; leaf++) {
                is("l, n and s", x.told(leaf, 6), 40 + 100 * leaf + 4);
            }
            for (char letter = 'a'; letter <= 'z'; letter++) {
                is("" + letter, fault("miss " + letter), letter == 'l' || letter == 's' || letter == 'n' ? -1 : 5);
            }
        });
        says("of throw a TURN less LAST, t TIMES, r ROOM, n", x -> {
            x.rule(4);
            plains(x, 3, 3, 3);
            wants(x, 2, 1, 0, 2, 2, 1, 0);
            // LAST of 0, 1, 2: 7, 6, 5; TIMES 2, 2, 3; TURN 7.
            int[] due = {0, 1, 2};
            for (int age = 0; age < 3; age++) {
                text(x, "throw a=" + age);
                is("a is " + age, x.next(), due[age]);
            }
            text(x, "throw t");
            is("t", x.next(), 2);
            text(x, "throw t=2");
            is("t is 2: 1 came ahead of 0", x.next(), 1);
            text(x, "throw n=0");
            is("n", x.next(), 0);
            x.turns(0, 1);
            text(x, "throw r=4");
            is("r is ROOM, not SIZE", x.next(), 0);
            for (char letter = 'a'; letter <= 'z'; letter++) {
                is("" + letter, fault("throw " + letter), "atrn".indexOf(letter) >= 0 ? -1 : 6);
            }
        });
        says("a TURN less LAST", x -> {
            // Within an asking TURN is 1 more already.
            plains(x, 6, 6, 6);
            x.rule(4);
            text(x, "throw a=1");
            wants(x, 0, 1, 2);
            same("the one asked for right ahead is thrown", order(x), "02");
        });
    }

    private void words() {
        says("A word is a row of letters a .. z, or of digits, as long as it goes", x -> {
            is("the first letter", fault("throw a"), -1);
            is("as long as it goes", fault("throw at"), 6);
            is("ahead of a", fault("throw `"), 6);
            is("behind z", fault("throw {"), 6);
            is("a word to z", fault("throw az"), 6);
            is("the first digit", fault("room 0"), -1);
            is("the last digit", fault("room 9"), -1);
            is("ahead of 0", fault("room /"), 5);
            is("behind 9", fault("room :"), 5);
            is("to the last digit", fault("room 99990"), 5);
            is("letters of another row", fault("room S"), 5);
            is("a KEY with a letter more", fault("throwa 1"), 0);
            is("a KEY and a sign ahead of a", fault("room`"), 4);
            is("a KEY and a sign behind z", fault("room{"), 4);
            is("a NUMBER and a sign behind 9", fault("room 1:"), 6);
        });
        says("any other byte is a sign by itself", x -> {
            is("a sign of no rule", fault("room s%2"), 6);
            is("above 127", fault("room \u00e4"), 5);
            is("the highest", fault("room s\u00ff"), 6);
            is("0", fault("room s\u0000"), 6);
            is("a dot in a NUMBER", fault("room 1.5"), 6);
            is("two signs are two", fault("room s+*s"), 7);
        });
        says("Between words and signs, and at the ends, there may be blanks (byte 32)", x -> {
            is("everywhere", fault("  room   (  s  +  1  )  *  !  n  "), -1);
            is("nowhere", fault("room(s+1)*!n"), -1);
            is("KEY and !", fault("room!s"), -1);
            is("within a KEY", fault("ro om s"), 0);
            is("within a NUMBER", fault("room 1 2"), 7);
            for (char other : new char[] {9, 10, 13, 0, 31, 33, 160}) {
                is("byte " + (int) other, fault("room s" + other), 6);
                is("byte " + (int) other, fault("room" + other + "+"), other == '!' ? 5 : 4);
            }
        });
        says("a word right behind another one needs one", x -> {
            is("a NUMBER behind a KEY", fault("room1"), 4);
            is("with a blank", fault("room 1"), -1);
            is("a letter behind a NUMBER", fault("room 1s"), 6);
            is("a NUMBER behind a NAME", fault("room s1"), 6);
            is("a NUMBER of 5 behind a KEY", fault("room12345"), 4);
            is("not behind a sign", fault("room (1)*s"), -1);
        });
    }

    private static String times(String what, int many) {
        return what.repeat(many);
    }

    private void faults() {
        says("FAULT: the first byte of the first word or sign with which no TEXT goes on", x -> {
            is("of a word", fault("room 1+throw"), 7);
            is("of a sign", fault("room 1+)"), 7);
            is("the first of two", fault("room + + q"), 5);
            is("of the first word", fault("  zoom s"), 2);
            is("behind blanks", fault("room 1    )"), 10);
            is("what is behind it doesn't matter", fault("room q((((((((("), 5);
        });
        says("(a word that needs a blank ahead of it", x -> {
            is("where with a blank a TEXT would go on", fault("miss7"), 4);
            is("where it would not, too", fault("miss l7"), 6);
        });
        says("a NUMBER of more than 4 digits", x -> {
            is("5", fault("miss 1+12345"), 7);
            is("many", fault("miss 1234567890"), 5);
            is("not 4", fault("miss 1+1234"), -1);
        });
        says("the ninth ( that would be open within others", x -> {
            is("eight", fault("room " + times("(", 8) + "s" + times(")", 8)), -1);
            is("nine", fault("room " + times("(", 9) + "s" + times(")", 9)), 13);
            is("nine, behind a sign", fault("room 1+" + times("(", 9)), 15);
            is("nine beside one another", fault("room " + times("(s)+", 9) + "s"), -1);
            is("eight again behind some that are closed", fault("room ((s))+" + times("(", 8) + "s" + times(")", 8)), -1);
            is("the ninth behind some that are closed", fault("room " + times("(", 8) + "s)+(s)+((s"), 21);
            is("eight that are not closed", fault("room " + times("(", 8) + "s"), 14);
        });
        says("the ninth ! likewise", x -> {
            is("eight", fault("room " + times("!", 8) + "s"), -1);
            is("nine", fault("room " + times("!", 9) + "s"), 13);
            is("nine beside one another", fault("room " + times("!s+", 9) + "s"), -1);
            is("eight twice", fault("room " + times("!", 8) + "s+" + times("!", 8) + "s"), -1);
            is("nine through (", fault("room " + times("!(", 8) + "!s"), 21);
            is("eight through (", fault("room !!!!(!!!!s)"), -1);
            is("nine through one (", fault("room !!!!(!!!!!s)"), 14);
            is("eight within, one behind them", fault("room (" + times("!", 8) + "s)+!s"), -1);
        });
        says("each by itself)", x -> {
            is("eight ( and eight !", fault("room " + times("(", 8) + times("!", 8) + "s" + times(")", 8)), -1);
            is("one by one", fault("room " + times("!(", 8) + "s" + times(")", 8)), -1);
            is("the ninth ( behind eight !", fault("room " + times("!", 8) + times("(", 9)), 21);
            is("the ninth ! behind eight (", fault("room " + times("(", 8) + times("!", 9)), 21);
        });
        says("the end (the place behind the last byte), if it comes too soon", x -> {
            is("an empty TAPE", fault(""), 0);
            is("blanks alone", fault("    "), 4);
            is("a KEY alone", fault("room"), 4);
            is("a KEY and blanks", fault("room  "), 6);
            is("behind a sign", fault("room s+"), 7);
            is("behind a sign and blanks", fault("room s+  "), 9);
            is("an open (", fault("room (s "), 8);
            is("behind 96 bytes", fault("room s" + times("+s", 44) + "+ "), 96);
        });
    }

    private void values() {
        says("Ints wrap", x -> {
            // 4096 * 4096 * 128 is 2147483648: as an int the least one.
            is("up", value("4096*4096*128<0"), 1);
            is("down", value("4096*4096*128-1>0"), 1);
            is("by +", value("4096*4096*128-1+1<0"), 1);
            is("by *", value("4096*4096*256"), 0);
            is("9999 * 9999 * 22 wraps", value("9999*9999*22<0"), 1);
            is("the least one by -1", value("4096*4096*128/(0-1)<0"), 1);
            is("the least one less itself", value("4096*4096*128-4096*4096*128"), 0);
            is("compared as they are", value("4096*4096*128<1"), 1);
        });
        says("/ is 0 by 0", x -> {
            is("7", value("7/0"), 0);
            is("0", value("0/0"), 0);
            is("a NAME that is 0", value("5+7/n"), 5);
            is("a sum that is 0", value("100/(l-20)+3"), 3);
            is("below 0", value("(0-7)/0+2"), 2);
        });
        says("tests, & | ! give 1 or 0", x -> {
            String[] ones = {"1<2", "2=2", "3>2", "5&7", "5|0", "0|5", "!0"};
            String[] zeros = {"2<2", "3<2", "2=3", "2>2", "2>3", "5&0", "0&5", "0&0", "0|0", "!5", "!1"};
            for (String one : ones) {
                is(one, value(one), 1);
                is("9 times " + one, value("9*(" + one + ")"), 9);
            }
            for (String zero : zeros) {
                is(zero, value("5+(" + zero + ")"), 5);
            }
        });
        says("(what is not 0 is true", x -> {
            is("2", value("2&4"), 1);
            is("below 0", value("(0-1)&1"), 1);
            is("below 0", value("(0-1)|0"), 1);
            is("! of below 0", value("7+!(0-1)"), 7);
            is("the least int", value("4096*4096*128&1"), 1);
            is("!!", value("!!5"), 1);
            is("!!!", value("3+!!!5"), 3);
        });
        says("both sides are worked out)", x -> {
            is("/ by 0 behind what is settled", value("1|1/0"), 1);
            is("/ by 0 behind what is settled", value("4+(0&1/0)"), 4);
            is("as many NUMBERS and NAMES", text(x, "room 1|s/n"), 0);
            is("as many NUMBERS and NAMES", x.textTold(0, 1), 3);
        });
        says("Of a KEY that TEXT counts that was told last", x -> {
            plains(x, 3);
            text(x, "room 5");
            is("the first", x.told(0, 5), 5);
            text(x, "room 6");
            is("the second", x.told(0, 5), 6);
            text(x, "miss 7");
            is("not by one of another KEY", x.told(0, 5), 6);
            text(x, "room 8+");
            is("not by a FAULT", x.told(0, 5), 6);
            text(x, "miss !l");
            text(x, "miss l");
            is("a shorter one: nothing is left of the longer one", x.told(0, 6), 30);
            for (int i = 5; i < 14; i++) {
                text(x, "throw 1");
            }
            text(x, "room 9");
            is("not by one that is refused", x.told(0, 5), 6);
        });
    }

    private void feedAndTrim() {
        promise(28);
        says("Twelve bytes come to THE TAPE, the highest of each number first: how many it has", x -> {
            // "room n+3+4 s", then the same without its last two bytes.
            is("twelve", x.feed(0x726f6f6d, 0x206e2b33, 0x2b342073), 12);
            is("in their order", x.text(), -111);
            x.feed(0x726f6f6d, 0x206e2b33, 0x2b342073);
            is("twelve more", x.feed(0x20202020, 0x20202020, 0x20202020), 24);
            x.trim(10);
            plains(x, 1);
            is("in their order", x.text(), 0);
            is("in their order", x.told(0, 5), 7);
            // The highest byte may be above 127: a sign at place 8.
            x.feed(0x726f6f6d, 0x20732b31, 0xff202020);
            is("8 bits", x.text(), -108);
        });
        says("FULL: it would have more than 96", x -> {
            for (int i = 1; i <= 8; i++) {
                is("as many as 96", x.feed(i, -i, MIN), 12 * i);
            }
            is("more", x.feed(1, 2, 3), FULL);
            is("stays", x.count(12), 96);
            x.trim(85);
            is("97", x.feed(1, 2, 3), FULL);
            is("stays", x.count(12), 85);
            x.trim(84);
            is("96", x.feed(1, 2, 3), 96);
        });
        promise(29);
        says("THE TAPE keeps its first n bytes: n", x -> {
            x.feed(0x726f6f6d, 0x20353637, 0x38392020);
            is("all of them", x.trim(12), 12);
            is("some", x.trim(6), 6);
            is("so many", x.count(12), 6);
            is("what is behind is gone", x.trim(7), BAD);
            plains(x, 1);
            is("the first are kept", x.text(), 0);
            is("room 5", x.told(0, 5), 5);
            is("none of none", x.trim(0), 0);
        });
        says("BAD", x -> {
            is("one of none", x.trim(1), BAD);
            x.feed(1, 2, 3);
            is("one more than there are", x.trim(13), BAD);
            is("below 0", x.trim(-1), BAD);
            is("far off", x.trim(MIN), BAD);
            is("far off", x.trim(MAX), BAD);
            is("stays", x.count(12), 12);
            is("none is fine", x.trim(0), 0);
            is("none is left", x.count(12), 0);
        });
    }

    private void text() {
        promise(30);
        says("THE TAPE is a TEXT: its number", x -> {
            is("the first", text(x, "room s"), 0);
            is("the second", text(x, "throw a"), 1);
            is("the same again", text(x, "room s"), 2);
            is("three", x.count(10), 3);
            is("of 96 bytes", text(x, "room s" + times("+s", 45)), 3);
            is("NUMBERS and NAMES of it", x.textTold(3, 1), 46);
        });
        says("-100 less the place of its FAULT", x -> {
            is("at 0", text(x, "zoom"), -100);
            is("at 5", text(x, "room x"), -105);
            is("at the end of 96", text(x, "room s" + times("+s", 44) + "+ "), -196);
            is("no TEXT", x.count(10), 0);
            is("none counts", x.why(0), NONE);
        });
        says("FULL", x -> {
            for (int i = 0; i < 13; i++) {
                text(x, "room 1");
            }
            is("the last", text(x, "miss 1"), 13);
            is("one more", text(x, "miss 2"), FULL);
            is("the FAULT first", text(x, "miss x"), -105);
            is("an empty TAPE", x.text(), -100);
            is("fourteen", x.count(10), 14);
            is("what counts stays", x.why(1), 13);
        });
    }

    private void textToldAndWhy() {
        promise(31);
        says("Of a TEXT: what 0 KEY (0 room, 1 miss, 2 throw), 1 how many NUMBERS and NAMES it has", x -> {
            text(x, "throw a");
            text(x, "miss l+n*(s-12)/3");
            text(x, "room !!(((5)))");
            int[] keys = {2, 1, 0};
            int[] many = {1, 5, 1};
            for (int i = 0; i < 3; i++) {
                is("KEY", x.textTold(i, 0), keys[i]);
                is("how many", x.textTold(i, 1), many[i]);
            }
        });
        says("BAD", x -> {
            is("no TEXTS", x.textTold(0, 0), BAD);
            text(x, "room s");
            is("behind the last", x.textTold(1, 0), BAD);
            is("below", x.textTold(-1, 0), BAD);
            is("what below", x.textTold(0, -1), BAD);
            is("what above", x.textTold(0, 2), BAD);
            is("far off", x.textTold(MAX, MIN), BAD);
        });
        promise(32);
        says("The TEXT that counts for a KEY", x -> {
            text(x, "throw a");
            text(x, "room s");
            text(x, "room n");
            text(x, "miss l");
            is("room", x.why(0), 2);
            is("miss", x.why(1), 3);
            is("throw", x.why(2), 0);
        });
        says("BAD", x -> {
            is("below", x.why(-1), BAD);
            is("above", x.why(3), BAD);
            is("far off", x.why(MIN), BAD);
        });
        says("NONE", x -> {
            for (int key = 0; key < 3; key++) {
                is("at first", x.why(key), NONE);
            }
            text(x, "miss l");
            is("of another KEY", x.why(0), NONE);
            is("of another KEY", x.why(2), NONE);
        });
    }
}
