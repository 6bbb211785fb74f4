import java.util.function.Consumer;

/** What the groups of tests of sentences share. */
abstract class Group {
    static final int BAD = -1000000001, NO = -1000000002, FULL = -1000000003, NONE = -1000000005;
    static final int NOTHING = -1000000011, KIND = -1000000012, INDEX = -1000000013, SIZE = -1000000014;
    static final int MIN = Integer.MIN_VALUE, MAX = Integer.MAX_VALUE;

    private final Sentences document;

    Group(Sentences document) {
        this.document = document;
    }

    abstract void all();

    void part(int number) {
        document.in("part " + number);
    }

    void promise(int number) {
        document.in("promise " + number);
    }

    void use() {
        document.in("use");
    }

    void says(String words, Consumer<KeptLeaves> test) {
        document.says(words, test);
    }

    void is(String what, long got, long want) {
        document.is(what, got, want);
    }

    void same(String what, String got, String want) {
        document.same(what, got, want);
    }

    /** A LEAF of KIND 0 that leans on none. */
    static int plain(KeptLeaves x, int size, int loss) {
        return x.leaf(0, size, loss, NONE);
    }

    /** LEAVES of KIND 0 that lean on none, of LOSS 10 times their SIZE. */
    static void plains(KeptLeaves x, int... sizes) {
        for (int size : sizes) {
            plain(x, size, 10 * size);
        }
    }

    /** LEAVES of SIZE 1 and LOSS 10, each of which leans on the one ahead of it. */
    static void chain(KeptLeaves x, int many) {
        for (int i = 0; i < many; i++) {
            x.leaf(0, 1, 10, i == 0 ? NONE : i - 1);
        }
    }

    static void wants(KeptLeaves x, int... leaves) {
        for (int leaf : leaves) {
            x.want(leaf);
        }
    }

    static void plans(KeptLeaves x, int... leaves) {
        for (int leaf : leaves) {
            x.plan(leaf);
        }
    }

    static void tells(KeptLeaves x, int... numbers) {
        for (int number : numbers) {
            x.tell(number);
        }
    }

    static void marks(KeptLeaves x, int sheet, int... numbers) {
        for (int i = 0; i < numbers.length; i++) {
            x.mark(sheet, i, numbers[i]);
        }
    }

    /** THE VAULT's LEAVES in their order, as digits. */
    static String order(KeptLeaves x) {
        StringBuilder row = new StringBuilder();
        for (int i = 0; i < x.count(1); i++) {
            row.append(x.at(i));
        }
        return row.toString();
    }

    /** The first places of a SHEET, of which SLOT 4 takes a copy; '-' is NO NUMBER. */
    static String places(KeptLeaves x, int sheet, int n) {
        StringBuilder row = new StringBuilder();
        x.lay(4, 2, sheet);
        for (int i = 0; i < n; i++) {
            int found = x.item(4, i);
            row.append(i == 0 ? "" : " ").append(found == KIND ? "-" : "" + found);
        }
        return row.toString();
    }

    static int drawn(int[] z) {
        z[0] = (int) (z[0] * 1103515245L + 12345L);
        return z[0] >>> 8;
    }

    static int text(KeptLeaves x, String text) {
        return Due.text(x, text);
    }

    /** What a text of miss gives for a LEAF of SIZE 3, LOSS 20, number 0. */
    static int value(String e) {
        KeptLeaves x = new KeptLeaves();
        plain(x, 3, 20);
        int number = text(x, "miss " + e);
        return number == 0 ? x.told(0, 6) : number;
    }

    /** The place of a text's fault; -1: it has none. */
    static int fault(String text) {
        int answer = text(new KeptLeaves(), text);
        return answer >= 0 ? -1 : -100 - answer;
    }
}
