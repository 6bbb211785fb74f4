import java.util.StringJoiner;

/** Objects that have something of everything, and all that can be seen of an object. */
final class Scenes {
    private static final int NONE = -1000000005;

    private Scenes() {
    }

    /** Four LEAVES, some of them in THE VAULT, an IMAGE that is not as the object any more. */
    static KeptLeaves rich() {
        KeptLeaves x = richImage();
        x.keep();
        x.set(0, 1, 11);
        x.want(0);
        x.plan(2);
        x.seed(99);
        tellTurns(x, richImage(), 2);
        Due.toTape(x, "throw t+12");
        furnish(x);
        return x;
    }

    private static KeptLeaves richImage() {
        KeptLeaves x = new KeptLeaves();
        x.leaf(0, 3, 10, NONE);
        x.leaf(1, 4, 20, 0);
        x.leaf(2, 5, 30, NONE);
        x.leaf(4, 6, 40, 2);
        x.want(1);
        x.want(0);
        x.want(2);
        x.rule(4);
        x.care(1);
        Due.text(x, "throw a+n");
        Due.text(x, "miss l+1");
        x.plan(0);
        x.plan(1);
        x.plan(3);
        x.seed(77);
        return x;
    }

    /** As many of everything as there may be. */
    static KeptLeaves full() {
        KeptLeaves x = fullImage();
        x.keep();
        x.want(7);
        tellTurns(x, fullImage(), 30);
        for (int i = 0; i < 8; i++) {
            x.feed(0x726f6f6d, 0x20732b6e, 0x2b202020);
        }
        furnish(x);
        return x;
    }

    private static KeptLeaves fullImage() {
        KeptLeaves x = new KeptLeaves();
        for (int i = 0; i < 8; i++) {
            x.leaf(i % 6, 1 + i, 9 * i, i % 3 == 0 ? NONE : i - 1);
        }
        for (int i = 0; i < 24; i++) {
            x.plan(i % 7);
        }
        for (int i = 0; i < 14; i++) {
            Due.text(x, "throw a+" + i);
        }
        x.want(0);
        x.want(1);
        x.want(5);
        return x;
    }

    private static void furnish(KeptLeaves x) {
        x.sheet(0, 0, 3);
        x.mark(0, 0, 1);
        x.mark(0, 1, -2);
        x.mark(0, 2, 3);
        x.sheet(1, 1, 3);
        x.mark(1, 0, 5);
        x.mark(1, 1, NONE);
        x.mark(1, 2, 70000);
        x.sheet(3, 0, 0);
        x.lay(0, 1, 1);
        x.lay(1, 2, 1);
        x.lay(2, 3, 17);
    }

    /** Tells an object n of THE TURNS TOLD of an IMAGE that is as another object. */
    static void tellTurns(KeptLeaves x, KeptLeaves image, int n) {
        int[] z = {0};
        for (int i = 0; i < n; i++) {
            z[0] = image.count(13);
            int leaf = Group.drawn(z) % image.count(0);
            image.seed(z[0]);
            x.tell(10 * leaf + image.want(leaf));
            x.tell(image.count(2));
        }
    }

    /** All that can be seen of an object; it is not as it was then. */
    static String seen(KeptLeaves x) {
        StringJoiner all = new StringJoiner(" ");
        all.add("next " + x.next());
        addState(all, x);
        all.add("slots");
        for (int slot = 0; slot < 5; slot++) {
            all.add("" + x.ask(slot, 0)).add("" + x.rest(slot, 7)).add("" + x.item(slot, 3));
            for (int place = 0; place < 3; place++) {
                all.add("" + x.item(slot, place));
            }
        }
        all.add("sheets");
        for (int sheet = 0; sheet < 4; sheet++) {
            all.add("" + x.lay(4, 0, 0)).add("" + x.lay(4, 2, sheet)).add("" + x.item(4, 3));
            for (int place = 0; place < 3; place++) {
                all.add("" + x.item(4, place));
            }
        }
        int waiting = x.count(11);
        all.add("check " + x.check(waiting == 0 ? 1 : waiting / 2));
        all.add("text " + x.text());
        all.add("image " + x.back());
        addState(all, x);
        return all.toString();
    }

    private static void addState(StringJoiner all, KeptLeaves x) {
        all.add("leaves");
        int number = x.count(0);
        for (int leaf = 0; leaf < number; leaf++) {
            for (int what = 0; what < 12; what++) {
                all.add("" + x.told(leaf, what));
            }
        }
        all.add("counts");
        for (int what = 0; what < 14; what++) {
            all.add("" + x.count(what));
        }
        all.add("texts");
        for (int key = 0; key < 3; key++) {
            all.add("" + x.why(key)).add("" + x.textTold(x.why(key), 1));
        }
        all.add("row " + x.would()).add("" + x.least(0)).add("" + x.least(1));
        all.add("best " + x.best(1)).add("" + x.gap(1, 0)).add("" + x.means(1));
    }
}
