import java.util.ArrayList;
import java.util.List;
import java.util.Random;

/** Runs of calls drawn by lot, answered by the class and by the model: both must say the same. */
public final class ModelTest {
    private static final int NONE = -1000000005;
    private static final int CALLS = 512;
    private static final Due due = new Due();

    private final Random lot;
    private final List<String> made = new ArrayList<>();
    private final int often;
    private KeptLeaves x = new KeptLeaves();
    private Model m = new Model();
    private boolean told;

    private ModelTest(long seed) {
        lot = new Random(seed);
        often = lot.nextInt(5);
    }

    public static void main(String[] args) {
        int runs = args.length > 0 ? Integer.parseInt(args[0]) : 120;
        long first = args.length > 1 ? Long.parseLong(args[1]) : 1;
        for (long seed = first; seed < first + runs && due.wrong() == 0; seed++) {
            new ModelTest(seed).run(seed);
        }
        due.end("ModelTest");
    }

    private void run(long seed) {
        while (made.size() < CALLS && !told) {
            switch (lot.nextInt(4) == 0 ? often : lot.nextInt(5)) {
                case 0: leaves(); break;
                case 1: vault(); break;
                case 2: row(); break;
                case 3: texts(); break;
                default: sheetsAndImages(); break;
            }
        }
        if (told) {
            System.out.println("seed " + seed + ": " + made);
        }
    }

    private void say(String call, long got, long want) {
        made.add(call);
        due.is(call, got, want);
        told |= got != want;
    }

    /** Mostly within bounds, at times just outside, seldom far off. */
    private int within(int from, int to) {
        int way = lot.nextInt(40);
        if (way == 0) {
            return from - 1;
        }
        if (way == 1) {
            return to + 1;
        }
        if (way == 2) {
            return new int[] {Integer.MIN_VALUE, Integer.MAX_VALUE, NONE, -1, 0, 97}[lot.nextInt(6)];
        }
        return to < from ? from : from + lot.nextInt(to - from + 1);
    }

    private int leaf() {
        return within(0, m.s.leaves.size() - 1);
    }

    private void leaves() {
        int a = leaf();
        int kind = within(0, 5);
        switch (lot.nextInt(9)) {
            case 0: {
                int size = within(1, 9);
                int loss = within(0, 99);
                int on = lot.nextBoolean() ? NONE : leaf();
                say("leaf(" + kind + "," + size + "," + loss + "," + on + ")", x.leaf(kind, size, loss, on), m.leaf(kind, size, loss, on));
                break;
            }
            case 1: case 2: {
                int what = within(0, 11);
                say("told(" + a + "," + what + ")", x.told(a, what), m.told(a, what));
                break;
            }
            case 3: say("as(" + a + "," + kind + ")", x.as(a, kind), m.as(a, kind)); break;
            case 4: say("turns(" + a + "," + kind + ")", x.turns(a, kind), m.turns(a, kind)); break;
            case 5: case 6: {
                int what = within(0, 2);
                int v = within(0, what == 1 ? 99 : 9);
                say("set(" + a + "," + what + "," + v + ")", x.set(a, what, v), m.set(a, what, v));
                break;
            }
            case 7: {
                int on = lot.nextInt(3) == 0 ? NONE : within(0, Math.max(a, 0) - 1);
                say("leans(" + a + "," + on + ")", x.leans(a, on), m.leans(a, on));
                break;
            }
            default: {
                int n = lot.nextInt(3) == 0 ? within(1, 8) : 1;
                say("deal(" + n + ")", x.deal(n), m.deal(n));
            }
        }
    }

    private void vault() {
        int a = leaf();
        switch (lot.nextInt(16)) {
            case 0: {
                int v = lot.nextBoolean() ? within(0, 60) : within(8, 24);
                say("space(" + v + ")", x.space(v), m.space(v));
                break;
            }
            case 1: {
                int v = within(0, 4);
                say("rule(" + v + ")", x.rule(v), m.rule(v));
                break;
            }
            case 2: {
                int v = within(0, 1);
                say("care(" + v + ")", x.care(v), m.care(v));
                break;
            }
            case 3: say("next()", x.next(), m.next()); break;
            case 4: say("out(" + a + ")", x.out(a), m.out(a)); break;
            case 5: {
                int place = within(0, 7);
                say("at(" + place + ")", x.at(place), m.at(place));
                break;
            }
            case 6: {
                int n = lot.nextInt(3) == 0 ? within(1, 20) : 1;
                say("fire(" + n + ")", x.fire(n), m.fire(n));
                break;
            }
            case 7: {
                int v = lot.nextInt();
                say("seed(" + v + ")", x.seed(v), m.seed(v));
                break;
            }
            default: say("want(" + a + ")", x.want(a), m.want(a)); break;
        }
    }

    private void row() {
        int a = leaf();
        int what = within(0, 1);
        switch (lot.nextInt(24)) {
            case 0: say("clear()", x.clear(), m.clear()); break;
            case 1: {
                int n = lot.nextBoolean() ? within(1, m.s.row.size()) : within(1, 24);
                say("run(" + n + ")", x.run(n), m.run(n));
                break;
            }
            case 2: case 3: say("would()", x.would(), m.would()); break;
            case 4: case 5: say("least(" + what + ")", x.least(what), m.least(what)); break;
            case 6: {
                int set = within(0, (1 << m.s.leaves.size()) - 1);
                say("hold(" + set + ")", x.hold(set), m.hold(set));
                break;
            }
            case 7: case 8: say("best(" + what + ")", x.best(what), m.best(what)); break;
            case 9: say("price(" + a + ")", x.price(a), m.price(a)); break;
            case 10: {
                int n = lot.nextInt(3) == 0 ? within(1, 3) : within(1, 2);
                say("means(" + n + ")", x.means(n), m.means(n));
                break;
            }
            case 11: {
                int n = within(1, 2);
                say("gap(" + n + "," + what + ")", x.gap(n, what), m.gap(n, what));
                break;
            }
            default: say("plan(" + a + ")", x.plan(a), m.plan(a)); break;
        }
    }

    private void texts() {
        int way = lot.nextInt(8);
        if (way == 0) {
            int text = within(0, m.s.texts.size() - 1);
            int what = within(0, 1);
            say("textTold(" + text + "," + what + ")", x.textTold(text, what), m.textTold(text, what));
        } else if (way == 1) {
            int key = within(0, 2);
            say("why(" + key + ")", x.why(key), m.why(key));
        } else if (way == 2) {
            int n = within(0, m.tape.length());
            say("trim(" + n + ")", x.trim(n), m.trim(n));
        } else if (way == 3) {
            feed(lot.nextInt(), lot.nextInt(), 0x20202020);
        } else {
            tell(drawnText());
        }
    }

    private void feed(int a, int b, int c) {
        say("feed(" + a + "," + b + "," + c + ")", x.feed(a, b, c), m.feed(a, b, c));
    }

    private void tell(String text) {
        if (lot.nextInt(10) > 0) {
            say("trim(0)", x.trim(0), m.trim(0));
        }
        StringBuilder padded = new StringBuilder(text);
        while (padded.length() % 12 != 0) {
            padded.append(' ');
        }
        for (int i = 0; i < padded.length(); i += 12) {
            feed(Due.four(padded, i), Due.four(padded, i + 4), Due.four(padded, i + 8));
        }
        int n = text.length();
        say("trim(" + n + ")", x.trim(n), m.trim(n));
        say("text()", x.text(), m.text());
    }

    private String drawnText() {
        int key = lot.nextInt(3);
        String names = new String[] {"sn", "lns", "atrn"}[key];
        StringBuilder text = new StringBuilder(new String[] {"room ", "miss ", "throw "}[key]);
        part(text, names, lot.nextInt(6));
        int wrong = lot.nextInt(4) == 0 ? 1 + lot.nextInt(2) : 0;
        String signs = "()!+-*/<=>&| 0123456789atrnlszroomA%\n";
        for (int i = 0; i < wrong; i++) {
            int at = lot.nextInt(text.length());
            char sign = signs.charAt(lot.nextInt(signs.length()));
            switch (lot.nextInt(3)) {
                case 0: text.setCharAt(at, sign); break;
                case 1: text.insert(at, sign); break;
                default: text.deleteCharAt(at); break;
            }
        }
        text.setLength(Math.min(96, text.length()));
        return text.toString();
    }

    private void part(StringBuilder text, String names, int depth) {
        if (lot.nextInt(8) == 0) {
            text.append(' ');
        }
        int way = lot.nextInt(depth > 0 ? 8 : 3);
        if (way == 0) {
            text.append(lot.nextInt(lot.nextBoolean() ? 10 : 10000));
        } else if (way <= 2) {
            text.append(names.charAt(lot.nextInt(names.length())));
        } else if (way == 3) {
            text.append("!!!!!!!!!!", 0, lot.nextInt(20) == 0 ? 9 : 1 + lot.nextInt(3));
            part(text, names, depth - 1);
        } else if (way <= 5) {
            int deep = lot.nextInt(20) == 0 ? 9 : 1;
            text.append("((((((((((", 0, deep);
            part(text, names, depth - 1);
            text.append("))))))))))", 0, deep);
        } else {
            part(text, names, depth - 1);
            text.append("|&<=>+-*/+-*".charAt(lot.nextInt(12)));
            part(text, names, depth - 1);
        }
    }

    private void sheetsAndImages() {
        int sheet = within(0, 3);
        int slot = within(0, 4);
        int place = lot.nextBoolean() ? within(0, 3) : within(0, 24);
        switch (lot.nextInt(20)) {
            case 0: case 1: {
                int sort = within(-1, 1);
                int n = within(0, 24);
                say("sheet(" + sheet + "," + sort + "," + n + ")", x.sheet(sheet, sort, n), m.sheet(sheet, sort, n));
                break;
            }
            case 2: case 3: case 4: case 5: {
                int v = new int[] {within(0, 7), within(-99999, 99999), lot.nextInt(), NONE, 1, 0, 2}[lot.nextInt(7)];
                say("mark(" + sheet + "," + place + "," + v + ")", x.mark(sheet, place, v), m.mark(sheet, place, v));
                break;
            }
            case 6: say("pour(" + sheet + ")", x.pour(sheet), m.pour(sheet)); break;
            case 7: say("reads(" + sheet + ")", x.reads(sheet), m.reads(sheet)); break;
            case 8: case 9: {
                int to = within(0, 3);
                int at = within(0, 6);
                int many = within(0, 6);
                say("copy(" + sheet + "," + place + "," + to + "," + at + "," + many + ")",
                    x.copy(sheet, place, to, at, many), m.copy(sheet, place, to, at, many));
                break;
            }
            case 10: case 11: {
                int thing = within(0, 3);
                int k = thing == 3 ? lot.nextInt() : thing == 1 ? leaf() : within(0, 3);
                say("lay(" + slot + "," + thing + "," + k + ")", x.lay(slot, thing, k), m.lay(slot, thing, k));
                break;
            }
            case 12: {
                int kind = within(0, 5);
                say("ask(" + slot + "," + kind + ")", x.ask(slot, kind), m.ask(slot, kind));
                break;
            }
            case 13: say("item(" + slot + "," + place + ")", x.item(slot, place), m.item(slot, place)); break;
            case 14: {
                int n = within(-3, 3);
                say("rest(" + slot + "," + n + ")", x.rest(slot, n), m.rest(slot, n));
                break;
            }
            case 15: turnsTold(); break;
            case 16: say("keep()", x.keep(), m.keep()); break;
            case 17: {
                if (lot.nextInt(3) == 0) {
                    say("back()", x.back(), m.back());
                }
                break;
            }
            default: {
                int what = within(0, 13);
                say("count(" + what + ")", x.count(what), m.count(what));
            }
        }
    }

    /** Mostly the right numbers, at times with one that isn't, one too few or one too many. */
    private void turnsTold() {
        int n = within(1, lot.nextInt(4) == 0 ? 30 : 5);
        if (m.image != null && !m.image.leaves.isEmpty() && n >= 1 && n <= 30) {
            List<Integer> numbers = m.turnsTold(n);
            int way = lot.nextInt(6);
            if (way == 0) {
                numbers.set(lot.nextInt(numbers.size()), lot.nextInt(90));
            } else if (way == 1) {
                numbers.remove(numbers.size() - 1);
            } else if (way == 2) {
                numbers.add(lot.nextInt(90));
            }
            for (int v : numbers) {
                say("tell(" + v + ")", x.tell(v), m.tell(v));
            }
        }
        if (lot.nextInt(8) > 0) {
            say("check(" + n + ")", x.check(n), m.check(n));
        }
    }
}
