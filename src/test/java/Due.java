/** Counts answers that are not as due, and prints them. */
final class Due {
    private int asked;
    private int wrong;

    void is(String call, long got, long due) {
        asked++;
        if (got != due) {
            wrong++;
            if (wrong <= 40) {
                System.out.println(call + " answered " + got + ", due is " + due);
            }
        }
    }

    void holds(String what, boolean holds) {
        is(what, holds ? 1 : 0, 1);
    }

    int wrong() {
        return wrong;
    }

    void end(String name) {
        System.out.println(name + ": " + asked + " answers, " + wrong + " not as due");
        if (wrong != 0) {
            System.exit(1);
        }
    }

    /** Brings a text to the tape of an object, byte by byte as it stands. */
    static void toTape(KeptLeaves x, String text) {
        StringBuilder padded = new StringBuilder(text);
        while (padded.length() % 12 != 0) {
            padded.append(' ');
        }
        for (int i = 0; i < padded.length(); i += 12) {
            x.feed(four(padded, i), four(padded, i + 4), four(padded, i + 8));
        }
        x.trim(text.length());
    }

    static int four(CharSequence text, int at) {
        int packed = 0;
        for (int i = at; i < at + 4; i++) {
            packed = packed << 8 | text.charAt(i) & 255;
        }
        return packed;
    }

    static int text(KeptLeaves x, String text) {
        toTape(x, text);
        return x.text();
    }
}
