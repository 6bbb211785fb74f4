import java.util.ArrayList;
import java.util.List;
import java.util.function.Supplier;
import java.util.function.ToLongFunction;

/** Calls that are refused, in objects that have something of everything. */
final class Refusals {
    static final int BAD = -1000000001, NO = -1000000002, FULL = -1000000003, NONE = -1000000005;
    static final int NOTHING = -1000000011, KIND = -1000000012, INDEX = -1000000013, SIZE = -1000000014;
    static final int MIN = Integer.MIN_VALUE, MAX = Integer.MAX_VALUE;

    static final class Refusal {
        final String name;
        final Supplier<KeptLeaves> scene;
        final ToLongFunction<KeptLeaves> call;
        final long due;

        Refusal(String name, Supplier<KeptLeaves> scene, ToLongFunction<KeptLeaves> call, long due) {
            this.name = name;
            this.scene = scene;
            this.call = call;
            this.due = due;
        }
    }

    private final List<Refusal> all = new ArrayList<>();
    private Supplier<KeptLeaves> scene;

    private void add(String name, long due, ToLongFunction<KeptLeaves> call) {
        all.add(new Refusal(name, scene, call, due));
    }

    /** Each for one reason. */
    static List<Refusal> single() {
        Refusals r = new Refusals();
        r.scene = Scenes::rich;
        r.leaves();
        r.vault();
        r.row();
        r.textsAndSheets();
        r.slotsAndImages();
        r.scene = Scenes::full;
        r.full();
        r.scene = KeptLeaves::new;
        r.empty();
        return r.all;
    }

    private void leaves() {
        for (int bad : new int[] {-1, 6, MIN, MAX, NONE}) {
            add("leaf KIND " + bad, BAD, x -> x.leaf(bad, 1, 0, NONE));
            add("as KIND " + bad, BAD, x -> x.as(0, bad));
            add("turns KIND " + bad, BAD, x -> x.turns(0, bad));
        }
        for (int bad : new int[] {0, 10, -1, MIN, MAX}) {
            add("leaf SIZE " + bad, BAD, x -> x.leaf(0, bad, 0, NONE));
            add("set SIZE " + bad, BAD, x -> x.set(0, 0, bad));
        }
        for (int bad : new int[] {-1, 100, MIN, MAX, NONE}) {
            add("leaf LOSS " + bad, BAD, x -> x.leaf(0, 1, bad, NONE));
            add("set LOSS " + bad, BAD, x -> x.set(0, 1, bad));
        }
        for (int bad : new int[] {-1, 10, MIN, MAX, NONE}) {
            add("set WEIGHT " + bad, BAD, x -> x.set(0, 2, bad));
        }
        for (int bad : new int[] {-1, 3, MIN, MAX}) {
            add("set what " + bad, BAD, x -> x.set(0, bad, 5));
        }
        for (int bad : new int[] {-1, 12, MIN, MAX}) {
            add("told what " + bad, BAD, x -> x.told(0, bad));
        }
        for (int bad : new int[] {-1, 4, 8, MIN, MAX, NONE}) {
            add("told LEAF " + bad, BAD, x -> x.told(bad, 0));
            add("as LEAF " + bad, BAD, x -> x.as(bad, 0));
            add("turns LEAF " + bad, BAD, x -> x.turns(bad, 0));
            add("set LEAF " + bad, BAD, x -> x.set(bad, 0, 1));
            add("leans LEAF " + bad, BAD, x -> x.leans(bad, NONE));
            add("want LEAF " + bad, BAD, x -> x.want(bad));
            add("out LEAF " + bad, BAD, x -> x.out(bad));
            add("plan LEAF " + bad, BAD, x -> x.plan(bad));
            add("price LEAF " + bad, BAD, x -> x.price(bad));
            add("lay LEAF " + bad, BAD, x -> x.lay(3, 1, bad));
        }
        for (int bad : new int[] {-1, 4, 8, MIN, MAX}) {
            add("leaf leans on " + bad, BAD, x -> x.leaf(0, 1, 0, bad));
        }
        for (int bad : new int[] {2, 3, -1, 4, MIN, MAX}) {
            add("leans on " + bad, BAD, x -> x.leans(2, bad));
        }
        add("as one that it is not", KIND, x -> x.as(0, 1));
        add("as one beside it", KIND, x -> x.as(1, 2));
        for (int bad : new int[] {0, 9, -1, MIN, MAX}) {
            add("deal " + bad, BAD, x -> x.deal(bad));
        }
    }

    private void vault() {
        for (int bad : new int[] {-1, 61, MIN, MAX, NONE}) {
            add("space " + bad, BAD, x -> x.space(bad));
        }
        for (int bad : new int[] {-1, 5, MIN, MAX}) {
            add("rule " + bad, BAD, x -> x.rule(bad));
        }
        for (int bad : new int[] {-1, 2, MIN, MAX}) {
            add("care " + bad, BAD, x -> x.care(bad));
        }
        for (int bad : new int[] {-1, NONE, MIN}) {
            add("at " + bad, BAD, x -> x.at(bad));
        }
        add("at behind the last", NONE, x -> x.at(3));
        add("at far behind the last", NONE, x -> x.at(MAX));
        for (int bad : new int[] {0, 21, -1, MIN, MAX}) {
            add("fire " + bad, BAD, x -> x.fire(bad));
        }
    }

    private void row() {
        for (int bad : new int[] {0, 25, -1, MIN, MAX}) {
            add("run " + bad, BAD, x -> x.run(bad));
        }
        add("run one more than there are", NO, x -> x.run(5));
        add("run 24", NO, x -> x.run(24));
        for (int bad : new int[] {-1, 2, MIN, MAX}) {
            add("least " + bad, BAD, x -> x.least(bad));
            add("best " + bad, BAD, x -> x.best(bad));
            add("gap what " + bad, BAD, x -> x.gap(1, bad));
        }
        for (int bad : new int[] {-1, 16, 31, MIN, MAX}) {
            add("hold " + bad, BAD, x -> x.hold(bad));
        }
        add("hold more than fits", NO, x -> x.hold(15));
        for (int bad : new int[] {0, 4, -1, MIN, MAX}) {
            add("means " + bad, BAD, x -> x.means(bad));
        }
        for (int bad : new int[] {0, 3, -1, MIN, MAX}) {
            add("gap " + bad, BAD, x -> x.gap(bad, 0));
        }
    }

    private void textsAndSheets() {
        for (int bad : new int[] {-1, 11, 96, MIN, MAX}) {
            add("trim " + bad, BAD, x -> x.trim(bad));
        }
        for (int bad : new int[] {-1, 2, 14, MIN, MAX}) {
            add("textTold TEXT " + bad, BAD, x -> x.textTold(bad, 0));
            add("textTold what " + bad, BAD, x -> x.textTold(0, bad));
        }
        for (int bad : new int[] {-1, 3, MIN, MAX}) {
            add("why " + bad, BAD, x -> x.why(bad));
        }
        add("why without a TEXT", NONE, x -> x.why(0));
        for (int bad : new int[] {-1, 4, MIN, MAX}) {
            add("sheet " + bad, BAD, x -> x.sheet(bad, 0, 2));
            add("sheet " + bad + " MISSING", BAD, x -> x.sheet(bad, -1, 2));
            add("mark " + bad, BAD, x -> x.mark(bad, 0, 1));
            add("pour " + bad, BAD, x -> x.pour(bad));
            add("reads " + bad, BAD, x -> x.reads(bad));
            add("copy from " + bad, BAD, x -> x.copy(bad, 0, 0, 0, 1));
            add("copy to " + bad, BAD, x -> x.copy(0, 0, bad, 0, 1));
            add("lay SHEET " + bad, BAD, x -> x.lay(3, 2, bad));
        }
        for (int bad : new int[] {-2, 2, MIN, MAX}) {
            add("sheet sort " + bad, BAD, x -> x.sheet(0, bad, 2));
        }
        add("sheet of 25", BAD, x -> x.sheet(0, 0, 25));
        add("sheet of MAX", BAD, x -> x.sheet(1, 1, MAX));
        add("sheet of -1", SIZE, x -> x.sheet(0, 0, -1));
        add("sheet of MIN", SIZE, x -> x.sheet(1, 1, MIN));
        add("mark MISSING", NOTHING, x -> x.mark(2, 0, 1));
        for (int bad : new int[] {-1, 3, MIN, MAX}) {
            add("mark place " + bad, INDEX, x -> x.mark(0, bad, 1));
            add("copy place " + bad, INDEX, x -> x.copy(0, bad, 0, 0, 1));
            add("copy at " + bad, INDEX, x -> x.copy(0, 0, 0, bad, 1));
        }
        add("mark a row of no places", INDEX, x -> x.mark(3, 0, 1));
        add("mark NONE in shorts", KIND, x -> x.mark(0, 0, NONE));
        for (int bad : new int[] {-100000, 100000, MIN, MAX, BAD}) {
            add("mark " + bad + " in floats", BAD, x -> x.mark(1, 0, bad));
        }
        add("pour MISSING", NOTHING, x -> x.pour(2));
        add("reads MISSING", NOTHING, x -> x.reads(2));
        add("copy from MISSING", NOTHING, x -> x.copy(2, 0, 0, 0, 1));
        add("copy to MISSING", NOTHING, x -> x.copy(0, 0, 2, 0, 1));
        add("copy shorts to floats", KIND, x -> x.copy(0, 0, 1, 0, 1));
        add("copy floats to shorts", KIND, x -> x.copy(1, 0, 0, 0, 1));
        for (int bad : new int[] {-1, 3, 4, MIN, MAX}) {
            add("copy many " + bad, INDEX, x -> x.copy(0, 1, 0, 0, bad));
        }
    }

    private void slotsAndImages() {
        for (int bad : new int[] {-1, 5, MIN, MAX}) {
            add("lay SLOT " + bad, BAD, x -> x.lay(bad, 0, 0));
            add("ask SLOT " + bad, BAD, x -> x.ask(bad, 0));
            add("item SLOT " + bad, BAD, x -> x.item(bad, 0));
            add("rest SLOT " + bad, BAD, x -> x.rest(bad, 1));
        }
        for (int bad : new int[] {-1, 4, MIN, MAX}) {
            add("lay thing " + bad, BAD, x -> x.lay(0, bad, 0));
        }
        add("lay MISSING", NOTHING, x -> x.lay(0, 2, 2));
        for (int bad : new int[] {-1, 6, MIN, MAX}) {
            add("ask KIND " + bad, BAD, x -> x.ask(0, bad));
        }
        add("ask nothing", NOTHING, x -> x.ask(3, 0));
        add("ask a SHEET", KIND, x -> x.ask(1, 0));
        add("ask a number", KIND, x -> x.ask(2, 0));
        add("ask another KIND", KIND, x -> x.ask(0, 2));
        add("ask a KIND under it", KIND, x -> x.ask(0, 3));
        add("item of nothing", NOTHING, x -> x.item(3, 0));
        add("item of a LEAF", KIND, x -> x.item(0, 0));
        add("item of a number", KIND, x -> x.item(2, 0));
        for (int bad : new int[] {-1, 3, MIN, MAX}) {
            add("item place " + bad, INDEX, x -> x.item(1, bad));
        }
        add("item NO NUMBER", KIND, x -> x.item(1, 1));
        add("rest of nothing", NOTHING, x -> x.rest(3, 1));
        add("rest of a LEAF", KIND, x -> x.rest(0, 1));
        add("rest of a SHEET", KIND, x -> x.rest(1, 1));
        add("rest by 0", NO, x -> x.rest(2, 0));
        for (int bad : new int[] {-1, 14, MIN, MAX}) {
            add("count " + bad, BAD, x -> x.count(bad));
        }
    }

    private void full() {
        add("a ninth LEAF", FULL, x -> x.leaf(0, 1, 0, NONE));
        add("a ninth LEAF that leans", FULL, x -> x.leaf(0, 1, 0, 7));
        add("a twenty-fifth asking", FULL, x -> x.plan(0));
        add("a tape beyond 96", FULL, x -> x.feed(1, 2, 3));
        add("a sixty-first number", FULL, x -> x.tell(1));
        add("trim beyond 96", BAD, x -> x.trim(97));
        add("hold beyond 8 LEAVES", BAD, x -> x.hold(256));
        add("told a ninth LEAF", BAD, x -> x.told(8, 0));
        add("want a ninth LEAF", BAD, x -> x.want(8));
        add("leans of a ninth LEAF", BAD, x -> x.leans(8, 0));
        add("a fifteenth TEXT's KEY", BAD, x -> x.textTold(14, 0));
    }

    private void empty() {
        add("next of none", NONE, x -> x.next());
        add("at of none", NONE, x -> x.at(0));
        add("KEPT of no askings", NONE, x -> x.least(1));
        add("gap without LEAVES", NONE, x -> x.gap(1, 0));
        add("gap's row without LEAVES", NONE, x -> x.gap(2, 1));
        add("hold 1 without LEAVES", BAD, x -> x.hold(1));
        add("run of no askings", NO, x -> x.run(1));
        add("back without an IMAGE", NO, x -> x.back());
        add("check without an IMAGE", NO, x -> x.check(1));
        add("told without LEAVES", BAD, x -> x.told(0, 0));
        add("lay LEAF 0 without LEAVES", BAD, x -> x.lay(0, 1, 0));
        add("trim of an empty tape", BAD, x -> x.trim(1));
        add("textTold without TEXTS", BAD, x -> x.textTold(0, 0));
        for (int i = 0; i < 4; i++) {
            int sheet = i;
            add("pour " + i + ", MISSING at first", NOTHING, x -> x.pour(sheet));
        }
        for (int i = 0; i < 5; i++) {
            int slot = i;
            add("item " + i + ", nothing at first", NOTHING, x -> x.item(slot, 0));
        }
    }

    /** Each for several reasons: what stands first with the call is answered. */
    static List<Refusal> several() {
        Refusals r = new Refusals();
        r.scene = Scenes::rich;
        r.severalOfSheets();
        r.severalOfSlots();
        r.scene = Scenes::full;
        r.add("leaf: BAD ahead of FULL", BAD, x -> x.leaf(6, 1, 0, NONE));
        r.add("leaf: BAD leans ahead of FULL", BAD, x -> x.leaf(0, 1, 0, 8));
        r.add("plan: BAD ahead of FULL", BAD, x -> x.plan(8));
        r.scene = KeptLeaves::new;
        r.add("run: BAD ahead of NO", BAD, x -> x.run(25));
        r.add("run: BAD ahead of NO", BAD, x -> x.run(0));
        r.add("least: BAD ahead of NONE", BAD, x -> x.least(2));
        r.add("gap: BAD n ahead of NONE", BAD, x -> x.gap(3, 0));
        r.add("gap: BAD what ahead of NONE", BAD, x -> x.gap(1, 2));
        r.add("check: BAD ahead of NO", BAD, x -> x.check(31));
        r.add("at: BAD ahead of NONE", BAD, x -> x.at(-1));
        r.add("why: BAD ahead of NONE", BAD, x -> x.why(3));
        r.add("hold: BAD ahead of NO", BAD, x -> x.hold(MAX));
        return r.all;
    }

    private void severalOfSheets() {
        add("as: BAD ahead of KIND", BAD, x -> x.as(4, 1));
        add("as: BAD ahead of KIND", BAD, x -> x.as(0, 6));
        add("hold: BAD ahead of NO", BAD, x -> x.hold(31));
        add("sheet: BAD sheet ahead of SIZE", BAD, x -> x.sheet(4, 0, -1));
        add("sheet: BAD sort ahead of SIZE", BAD, x -> x.sheet(0, 2, -1));
        add("mark: BAD ahead of INDEX", BAD, x -> x.mark(4, 3, 1));
        add("mark: NOTHING ahead of INDEX", NOTHING, x -> x.mark(2, -1, NONE));
        add("mark: INDEX ahead of KIND", INDEX, x -> x.mark(0, 3, NONE));
        add("mark: INDEX ahead of BAD", INDEX, x -> x.mark(1, 3, 100000));
        add("copy: BAD ahead of NOTHING", BAD, x -> x.copy(2, 0, 4, 0, 1));
        add("copy: BAD ahead of NOTHING", BAD, x -> x.copy(-1, 0, 2, 0, 1));
        add("copy: BAD ahead of INDEX", BAD, x -> x.copy(0, 9, 4, 9, -1));
        add("copy: NOTHING ahead of KIND and INDEX", NOTHING, x -> x.copy(2, -1, 1, -1, -1));
        add("copy: NOTHING ahead of INDEX", NOTHING, x -> x.copy(0, 9, 2, 9, 9));
        add("copy: KIND ahead of INDEX", KIND, x -> x.copy(0, 9, 1, 9, 9));
        add("copy: KIND of no places at all", KIND, x -> x.copy(0, 0, 1, 0, 0));
    }

    private void severalOfSlots() {
        add("lay: BAD slot ahead of NOTHING", BAD, x -> x.lay(5, 2, 2));
        add("ask: BAD kind ahead of NOTHING", BAD, x -> x.ask(3, 6));
        add("ask: BAD kind ahead of KIND", BAD, x -> x.ask(1, -1));
        add("item: BAD ahead of INDEX", BAD, x -> x.item(5, -1));
        add("item: NOTHING ahead of INDEX", NOTHING, x -> x.item(3, -1));
        add("item: KIND ahead of INDEX", KIND, x -> x.item(0, -1));
        add("rest: BAD ahead of NO", BAD, x -> x.rest(-1, 0));
        add("rest: NOTHING ahead of NO", NOTHING, x -> x.rest(3, 0));
        add("rest: KIND ahead of NO", KIND, x -> x.rest(0, 0));
    }
}
