import java.util.ArrayList;
import java.util.HashMap;
import java.util.List;
import java.util.Map;

/**
 * The document once more, in the slowest and plainest way, and in other ways
 * than the class: states are copied whole, texts are worked out from their
 * words, and the least is looked for among all sets.
 */
final class Model {
    static final int BAD = -1000000001, NO = -1000000002, FULL = -1000000003, NONE = -1000000005;
    static final int NOTHING = -1000000011, KIND = -1000000012, INDEX = -1000000013, SIZE = -1000000014;

    static final class Leaf {
        int kind, size, loss, weight = 1, lean = NONE, last, times;

        Leaf copied() {
            Leaf c = new Leaf();
            c.kind = kind;
            c.size = size;
            c.loss = loss;
            c.weight = weight;
            c.lean = lean;
            c.last = last;
            c.times = times;
            return c;
        }

        boolean under(int above) {
            switch (above) {
                case 0: return true;
                case 1: return kind == 1 || kind == 3;
                case 2: return kind == 2 || kind == 4;
                default: return kind == above;
            }
        }

        int worth() {
            switch (kind) {
                case 0: return loss + size;
                case 1: return loss + size + 10;
                case 2: return (loss + size) / 2;
                case 3: return loss + 10;
                case 4: return (loss + size) / 2 + weight;
                default: return 7;
            }
        }
    }

    static final class State {
        List<Leaf> leaves = new ArrayList<>();
        List<Integer> vault = new ArrayList<>();
        List<Integer> row = new ArrayList<>();
        List<List<String>> texts = new ArrayList<>();
        int space = 12, rule, care, turn, cost, z = 1;

        State copied() {
            State c = new State();
            for (Leaf leaf : leaves) {
                c.leaves.add(leaf.copied());
            }
            c.vault.addAll(vault);
            c.row.addAll(row);
            c.texts.addAll(texts);
            c.space = space;
            c.rule = rule;
            c.care = care;
            c.turn = turn;
            c.cost = cost;
            c.z = z;
            return c;
        }

        int why(String key) {
            for (int i = texts.size() - 1; i >= 0; i--) {
                if (texts.get(i).get(0).equals(key)) {
                    return i;
                }
            }
            return NONE;
        }

        int law(String key, Map<String, Integer> names) {
            List<String> words = texts.get(why(key));
            return value(words.subList(1, words.size()), names);
        }

        int room(int n) {
            Leaf leaf = leaves.get(n);
            int plain = leaf.size;
            if (why("room") != NONE) {
                plain = Math.min(9, Math.max(1, law("room", Map.of("s", leaf.size, "n", n))));
            }
            switch (leaf.kind) {
                case 0: return plain;
                case 1: return plain + 1;
                case 2: return plain / 2 + plain % 2;
                case 3: return (plain + 1) / 2 + (plain + 1) % 2;
                case 4: return plain / 2 + plain % 2 + 1;
                default: return 1;
            }
        }

        int miss(int n) {
            Leaf leaf = leaves.get(n);
            int plain = leaf.loss;
            if (why("miss") != NONE) {
                plain = Math.min(999, Math.max(0, law("miss", Map.of("l", leaf.loss, "n", n, "s", leaf.size))));
            }
            int leaners = 0;
            for (Leaf other : leaves) {
                leaners += other.lean == n ? 1 : 0;
            }
            switch (leaf.kind) {
                case 0: return plain;
                case 1: return plain + 5;
                case 2: return plain / 2;
                case 3: return plain + 5 + leaf.size;
                case 4: return plain / 2 * 2;
                default: return plain + leaners;
            }
        }

        int rooms(int set) {
            int sum = 0;
            for (int i = 0; i < leaves.size(); i++) {
                sum += (set & 1 << i) != 0 ? room(i) : 0;
            }
            return sum;
        }

        int bits() {
            int set = 0;
            for (int leaf : vault) {
                set += 1 << leaf;
            }
            return set;
        }

        boolean read(int set, int n) {
            return (set & 1 << n) != 0 && (leaves.get(n).lean == NONE || read(set, leaves.get(n).lean));
        }

        int draw() {
            long wide = (long) z * 1103515245L + 12345L;
            z = (int) wide;
            return (int) ((wide & 0xffffffffL) / 256);
        }

        int next() {
            List<Integer> looked = new ArrayList<>();
            for (int leaf : vault) {
                boolean leanedOn = false;
                for (int other : vault) {
                    leanedOn |= leaves.get(other).lean == leaf;
                }
                if (care == 0 || !leanedOn) {
                    looked.add(leaf);
                }
            }
            if (looked.isEmpty()) {
                return NONE;
            }
            if (rule == 3) {
                return looked.get(draw() % looked.size());
            }
            int found = looked.get(0);
            for (int leaf : looked) {
                if (before(leaf, found)) {
                    found = leaf;
                }
            }
            return found;
        }

        private boolean before(int a, int b) {
            Leaf x = leaves.get(a);
            Leaf y = leaves.get(b);
            if (rule == 1) {
                return x.last < y.last;
            }
            if (rule == 2) {
                return x.times < y.times;
            }
            return rule == 4 && why("throw") != NONE && urge(a) > urge(b);
        }

        private int urge(int n) {
            Leaf leaf = leaves.get(n);
            return law("throw", Map.of("a", turn - leaf.last, "t", leaf.times, "r", room(n), "n", n));
        }

        int throwTo(int most) {
            int thrown = 0;
            while (rooms(bits()) > most) {
                vault.remove((Integer) next());
                thrown++;
            }
            return thrown;
        }

        int asking(int n) {
            turn++;
            Leaf leaf = leaves.get(n);
            leaf.times++;
            if (read(bits(), n)) {
                for (int i = n; i != NONE; i = leaves.get(i).lean) {
                    leaves.get(i).last = turn;
                }
                return 1;
            }
            cost += miss(n);
            if (vault.contains(n)) {
                leaf.last = turn;
            } else if (room(n) <= space) {
                throwTo(space - room(n));
                vault.add(n);
                leaf.last = turn;
            }
            return 0;
        }

        int held(int set) {
            int sum = 0;
            for (int i = 0; i < leaves.size(); i++) {
                sum += read(set, i) ? leaves.get(i).weight * miss(i) : 0;
            }
            return sum;
        }

        /** The greatest HELD of sets without one leaf (NONE: of all), and the set. */
        int[] best(int without) {
            int[] found = {-1, 0};
            for (int set = 0; set < 1 << leaves.size(); set++) {
                boolean may = without == NONE || (set & 1 << without) == 0;
                if (may && rooms(set) <= space && held(set) > found[0]) {
                    found = new int[] {held(set), set};
                }
            }
            return found;
        }

        int costOf(List<Integer> asked) {
            State c = copied();
            for (int leaf : asked) {
                c.asking(leaf);
            }
            return c.cost - cost;
        }

        /** LEAST and KEPT of a row: every set that may be kept is gone through. */
        int[] least(List<Integer> asked) {
            int[] rooms = new int[1 << leaves.size()];
            for (int set = 0; set < rooms.length; set++) {
                rooms[set] = rooms(set);
            }
            int[] misses = new int[leaves.size()];
            for (int i = 0; i < misses.length; i++) {
                misses[i] = miss(i);
            }
            return least(asked, 0, bits(), rooms, misses, new HashMap<>());
        }

        private int[] least(List<Integer> asked, int at, int ahead, int[] rooms, int[] misses, Map<Integer, int[]> known) {
            if (at == asked.size()) {
                return new int[] {0, NONE};
            }
            int[] found = known.get(at * 256 + ahead);
            if (found != null) {
                return found;
            }
            int leaf = asked.get(at);
            int now = read(ahead, leaf) ? 0 : misses[leaf];
            int all = ahead | 1 << leaf;
            for (int set = 0; set <= all; set++) {
                if ((set | all) == all && rooms[set] <= space) {
                    int total = now + least(asked, at + 1, set, rooms, misses, known)[0];
                    if (found == null || total < found[0]) {
                        found = new int[] {total, set};
                    }
                }
            }
            known.put(at * 256 + ahead, found);
            return found;
        }

        long means(int n, List<Integer> asked, long product) {
            if (asked.size() == n) {
                return product * costOf(asked);
            }
            long sum = 0;
            for (int i = 0; i < leaves.size(); i++) {
                asked.add(i);
                sum += means(n, asked, product * leaves.get(i).weight);
                asked.remove(asked.size() - 1);
            }
            return sum;
        }

        int[] gap(int n) {
            int[] found = null;
            int last = n == 1 ? 1 : leaves.size();
            for (int i = 0; i < leaves.size(); i++) {
                for (int j = 0; j < last; j++) {
                    List<Integer> asked = n == 1 ? List.of(i) : List.of(i, j);
                    int lost = costOf(asked) - least(asked)[0];
                    if (found == null || lost > found[0]) {
                        found = new int[] {lost, n == 1 ? i : 10 * i + j};
                    }
                }
            }
            return found;
        }
    }

    // ---- texts: words are read by an automaton, values are worked out by splitting at the loosest sign

    /** The words of a text, or as the only one the place of its fault. */
    static List<String> words(String tape) {
        List<String> words = new ArrayList<>();
        int at = 0;
        boolean wordAhead = false;
        int open = 0;
        boolean wantsPiece = true;
        List<Boolean> compared = new ArrayList<>(List.of(false));
        List<Integer> nots = new ArrayList<>(List.of(0));
        while (true) {
            int start = at;
            while (start < tape.length() && tape.charAt(start) == ' ') {
                start++;
            }
            if (start == tape.length()) {
                return words.isEmpty() || wantsPiece || open > 0 ? List.of("" + start) : words;
            }
            String word = wordAt(tape, start);
            boolean isWord = Character.isLetterOrDigit(word.charAt(0)) && word.charAt(0) < 128 && !(word.charAt(0) >= 'A' && word.charAt(0) <= 'Z');
            List<String> fault = List.of("" + start);
            if (isWord && wordAhead && start == at) {
                return fault;
            }
            if (words.isEmpty()) {
                if (!List.of("room", "miss", "throw").contains(word)) {
                    return fault;
                }
            } else if (wantsPiece) {
                int top = open;
                if (word.equals("!")) {
                    int sum = 0;
                    for (int i : nots) {
                        sum += i;
                    }
                    if (sum == 8) {
                        return fault;
                    }
                    nots.set(top, nots.get(top) + 1);
                } else if (word.equals("(")) {
                    if (open == 8) {
                        return fault;
                    }
                    open++;
                    compared.add(false);
                    nots.add(0);
                } else if (isPiece(words.get(0), word)) {
                    nots.set(top, 0);
                    wantsPiece = false;
                } else {
                    return fault;
                }
            } else if (word.equals(")") && open > 0) {
                compared.remove(open);
                nots.remove(open);
                open--;
                nots.set(open, 0);
            } else if ("+-*/".contains(word)) {
                wantsPiece = true;
            } else if ("<=>".contains(word) && word.length() == 1 && !compared.get(open)) {
                compared.set(open, true);
                wantsPiece = true;
            } else if ("&|".contains(word) && word.length() == 1) {
                compared.set(open, false);
                wantsPiece = true;
            } else {
                return fault;
            }
            words.add(word);
            wordAhead = isWord;
            at = start + word.length();
        }
    }

    private static String wordAt(String tape, int start) {
        int end = start;
        while (end < tape.length() && tape.charAt(end) >= 'a' && tape.charAt(end) <= 'z') {
            end++;
        }
        if (end == start) {
            while (end < tape.length() && tape.charAt(end) >= '0' && tape.charAt(end) <= '9') {
                end++;
            }
        }
        return tape.substring(start, Math.max(end, start + 1));
    }

    private static boolean isPiece(String key, String word) {
        if (word.matches("[0-9]+")) {
            return word.length() <= 4;
        }
        return word.matches(key.equals("room") ? "[sn]" : key.equals("miss") ? "[lns]" : "[atrn]");
    }

    static int value(List<String> words, Map<String, Integer> names) {
        for (String signs : new String[] {"|", "&", "<=>", "+-", "*/"}) {
            int depth = 0;
            for (int i = words.size() - 1; i > 0; i--) {
                String word = words.get(i);
                depth += word.equals(")") ? 1 : word.equals("(") ? -1 : 0;
                if (depth == 0 && signs.contains(word)) {
                    return joined(word, value(words.subList(0, i), names), value(words.subList(i + 1, words.size()), names));
                }
            }
        }
        String first = words.get(0);
        if (first.equals("!")) {
            return value(words.subList(1, words.size()), names) == 0 ? 1 : 0;
        }
        if (first.equals("(")) {
            return value(words.subList(1, words.size() - 1), names);
        }
        return names.containsKey(first) ? names.get(first) : Integer.parseInt(first);
    }

    private static int joined(String sign, int a, int b) {
        switch (sign.charAt(0)) {
            case '|': return (a != 0 ? 1 : 0) | (b != 0 ? 1 : 0);
            case '&': return (a != 0 ? 1 : 0) & (b != 0 ? 1 : 0);
            case '<': return a < b ? 1 : 0;
            case '=': return a == b ? 1 : 0;
            case '>': return a > b ? 1 : 0;
            case '+': return a + b;
            case '-': return a - b;
            case '*': return a * b;
            default: return b == 0 ? 0 : (int) ((long) a / b);
        }
    }

    // ---- the face

    State s = new State();
    State image;
    String tape = "";
    List<Integer> waiting = new ArrayList<>();
    Object[] sheets = new Object[4];
    Object[] slots = new Object[5];

    private boolean no(int leaf) {
        return leaf < 0 || leaf >= s.leaves.size();
    }

    private static boolean not(int from, int v, int to) {
        return v < from || v > to;
    }

    int leaf(int kind, int size, int loss, int leans) {
        if (not(0, kind, 5) || not(1, size, 9) || not(0, loss, 99) || leans != NONE && no(leans)) {
            return BAD;
        }
        if (s.leaves.size() == 8) {
            return FULL;
        }
        Leaf made = new Leaf();
        made.kind = kind;
        made.size = size;
        made.loss = loss;
        made.lean = leans;
        s.leaves.add(made);
        return s.leaves.size() - 1;
    }

    int told(int leaf, int what) {
        if (no(leaf) || not(0, what, 11)) {
            return BAD;
        }
        Leaf l = s.leaves.get(leaf);
        int place = s.vault.indexOf(leaf);
        int[] all = {l.kind, l.size, l.loss, l.weight, l.lean, s.room(leaf), s.miss(leaf), l.last, l.times,
            place < 0 ? NONE : place, s.read(s.bits(), leaf) ? 1 : 0, l.worth()};
        return all[what];
    }

    int as(int leaf, int kind) {
        return no(leaf) || not(0, kind, 5) ? BAD : s.leaves.get(leaf).under(kind) ? s.leaves.get(leaf).size : KIND;
    }

    int turns(int leaf, int kind) {
        if (no(leaf) || not(0, kind, 5)) {
            return BAD;
        }
        int was = s.leaves.get(leaf).kind;
        s.leaves.get(leaf).kind = kind;
        return was;
    }

    int set(int leaf, int what, int v) {
        if (no(leaf) || not(0, what, 2) || what == 0 && not(1, v, 9) || what == 1 && not(0, v, 99) || what == 2 && not(0, v, 9)) {
            return BAD;
        }
        Leaf l = s.leaves.get(leaf);
        int was = what == 0 ? l.size : what == 1 ? l.loss : l.weight;
        l.size = what == 0 ? v : l.size;
        l.loss = what == 1 ? v : l.loss;
        l.weight = what == 2 ? v : l.weight;
        return was;
    }

    int leans(int leaf, int on) {
        if (no(leaf) || on != NONE && not(0, on, leaf - 1)) {
            return BAD;
        }
        int was = s.leaves.get(leaf).lean;
        s.leaves.get(leaf).lean = on;
        return was;
    }

    int deal(int n) {
        if (not(1, n, 8)) {
            return BAD;
        }
        int came = 0;
        while (came < n && s.leaves.size() < 8) {
            Leaf l = new Leaf();
            l.size = 1 + s.draw() % 9;
            l.loss = s.draw() % 100;
            int on = s.draw() % (1 + s.leaves.size());
            l.lean = on < s.leaves.size() ? on : NONE;
            s.leaves.add(l);
            came++;
        }
        return came;
    }

    int space(int v) {
        if (not(0, v, 60)) {
            return BAD;
        }
        s.space = v;
        return s.throwTo(v);
    }

    int rule(int v) {
        int was = s.rule;
        s.rule = not(0, v, 4) ? was : v;
        return not(0, v, 4) ? BAD : was;
    }

    int care(int v) {
        int was = s.care;
        s.care = not(0, v, 1) ? was : v;
        return not(0, v, 1) ? BAD : was;
    }

    int want(int leaf) {
        return no(leaf) ? BAD : s.asking(leaf);
    }

    int next() {
        return s.copied().next();
    }

    int out(int leaf) {
        return no(leaf) ? BAD : s.vault.remove((Integer) leaf) ? 1 : 0;
    }

    int at(int place) {
        return place < 0 ? BAD : place < s.vault.size() ? s.vault.get(place) : NONE;
    }

    int fire(int n) {
        if (not(1, n, 20)) {
            return BAD;
        }
        int had = s.vault.size();
        for (int i = 0; i < n; i++) {
            s.vault.remove((Integer) (s.draw() % 8));
        }
        return had - s.vault.size();
    }

    int seed(int v) {
        int was = s.z;
        s.z = v;
        return was;
    }

    int plan(int leaf) {
        if (no(leaf)) {
            return BAD;
        }
        if (s.row.size() == 24) {
            return FULL;
        }
        s.row.add(leaf);
        return s.row.size();
    }

    int clear() {
        int had = s.row.size();
        s.row.clear();
        return had;
    }

    int run(int n) {
        if (not(1, n, 24)) {
            return BAD;
        }
        if (n > s.row.size()) {
            return NO;
        }
        int had = s.cost;
        for (int leaf : s.row.subList(0, n)) {
            s.asking(leaf);
        }
        return s.cost - had;
    }

    int would() {
        return s.costOf(s.row);
    }

    int least(int what) {
        return not(0, what, 1) ? BAD : s.least(s.row)[what];
    }

    int hold(int set) {
        return not(0, set, (1 << s.leaves.size()) - 1) ? BAD : s.rooms(set) > s.space ? NO : s.held(set);
    }

    int best(int what) {
        return not(0, what, 1) ? BAD : s.best(NONE)[what];
    }

    int price(int leaf) {
        return no(leaf) ? BAD : s.best(NONE)[0] - s.best(leaf)[0];
    }

    long means(int n) {
        return not(1, n, 3) ? BAD : s.means(n, new ArrayList<>(), 1);
    }

    int gap(int n, int what) {
        return not(1, n, 2) || not(0, what, 1) ? BAD : s.leaves.isEmpty() ? NONE : s.gap(n)[what];
    }

    int feed(int a, int b, int c) {
        if (tape.length() > 84) {
            return FULL;
        }
        StringBuilder longer = new StringBuilder(tape);
        for (int four : new int[] {a, b, c}) {
            longer.append((char) (four >> 24 & 255)).append((char) (four >> 16 & 255)).append((char) (four >> 8 & 255)).append((char) (four & 255));
        }
        tape = longer.toString();
        return tape.length();
    }

    int trim(int n) {
        if (not(0, n, tape.length())) {
            return BAD;
        }
        tape = tape.substring(0, n);
        return n;
    }

    int text() {
        List<String> words = words(tape);
        tape = "";
        if (words.size() == 1) {
            return -100 - Integer.parseInt(words.get(0));
        }
        if (s.texts.size() == 14) {
            return FULL;
        }
        s.texts.add(words);
        return s.texts.size() - 1;
    }

    int textTold(int text, int what) {
        if (not(0, text, s.texts.size() - 1) || not(0, what, 1)) {
            return BAD;
        }
        List<String> words = s.texts.get(text);
        if (what == 0) {
            return List.of("room", "miss", "throw").indexOf(words.get(0));
        }
        int many = -1;
        for (String word : words) {
            many += word.matches("[a-z0-9]+") ? 1 : 0;
        }
        return many;
    }

    int why(int key) {
        return not(0, key, 2) ? BAD : s.why(List.of("room", "miss", "throw").get(key));
    }

    int sheet(int sheet, int sort, int n) {
        if (not(0, sheet, 3) || not(-1, sort, 1) || sort >= 0 && n > 24) {
            return BAD;
        }
        if (sort >= 0 && n < 0) {
            return SIZE;
        }
        sheets[sheet] = sort < 0 ? null : sort == 0 ? new short[n] : new float[n];
        return sort < 0 ? 0 : n;
    }

    private static int length(Object sheet) {
        return sheet instanceof short[] ? ((short[]) sheet).length : ((float[]) sheet).length;
    }

    /** NONE: NO NUMBER. */
    private static int number(Object sheet, int place) {
        if (sheet instanceof short[]) {
            return ((short[]) sheet)[place];
        }
        float v = ((float[]) sheet)[place];
        return v != v ? NONE : (int) v;
    }

    int mark(int sheet, int place, int v) {
        if (not(0, sheet, 3)) {
            return BAD;
        }
        Object to = sheets[sheet];
        if (to == null) {
            return NOTHING;
        }
        if (not(0, place, length(to) - 1)) {
            return INDEX;
        }
        if (to instanceof short[]) {
            if (v == NONE) {
                return KIND;
            }
            ((short[]) to)[place] = (short) v;
            return 1;
        }
        if (v != NONE && not(-99999, v, 99999)) {
            return BAD;
        }
        ((float[]) to)[place] = v == NONE ? Float.NaN : v;
        return 1;
    }

    int pour(int sheet) {
        if (not(0, sheet, 3)) {
            return BAD;
        }
        if (sheets[sheet] == null) {
            return NOTHING;
        }
        int came = 0;
        while (came < length(sheets[sheet]) && plan(number(sheets[sheet], came)) > 0) {
            came++;
        }
        return came;
    }

    int reads(int sheet) {
        if (not(0, sheet, 3)) {
            return BAD;
        }
        if (sheets[sheet] == null) {
            return NOTHING;
        }
        for (int i = 0; i < length(sheets[sheet]); i++) {
            int v = number(sheets[sheet], i);
            if (v != NONE && (no(i) || s.leaves.get(i).times != v)) {
                return i;
            }
        }
        return NONE;
    }

    int copy(int from, int place, int to, int at, int many) {
        if (not(0, from, 3) || not(0, to, 3)) {
            return BAD;
        }
        try {
            System.arraycopy(sheets[from], place, sheets[to], at, many);
        } catch (NullPointerException e) {
            return NOTHING;
        } catch (ArrayStoreException e) {
            return KIND;
        } catch (IndexOutOfBoundsException e) {
            return INDEX;
        }
        return many;
    }

    private static int thing(Object held) {
        return held == null ? 0 : held instanceof Leaf ? 1 : held instanceof Integer ? 3 : 2;
    }

    int lay(int slot, int thing, int k) {
        if (not(0, slot, 4) || not(0, thing, 3) || thing == 1 && no(k) || thing == 2 && not(0, k, 3)) {
            return BAD;
        }
        if (thing == 2 && sheets[k] == null) {
            return NOTHING;
        }
        int was = thing(slots[slot]);
        slots[slot] = thing == 0 ? null : thing == 1 ? s.leaves.get(k).copied() : thing == 2 ? cloned(sheets[k]) : (Object) k;
        return was;
    }

    private static Object cloned(Object sheet) {
        return sheet instanceof short[] ? ((short[]) sheet).clone() : ((float[]) sheet).clone();
    }

    int ask(int slot, int kind) {
        if (not(0, slot, 4) || not(0, kind, 5)) {
            return BAD;
        }
        Object held = slots[slot];
        return held == null ? NOTHING : thing(held) == 1 && ((Leaf) held).under(kind) ? ((Leaf) held).worth() : KIND;
    }

    int item(int slot, int place) {
        if (not(0, slot, 4)) {
            return BAD;
        }
        Object held = slots[slot];
        if (held == null) {
            return NOTHING;
        }
        if (thing(held) != 2) {
            return KIND;
        }
        if (not(0, place, length(held) - 1)) {
            return INDEX;
        }
        return number(held, place) == NONE ? KIND : number(held, place);
    }

    int rest(int slot, int n) {
        if (not(0, slot, 4)) {
            return BAD;
        }
        Object held = slots[slot];
        return held == null ? NOTHING : thing(held) != 3 ? KIND : n == 0 ? NO : (int) ((int) held % (long) n);
    }

    int tell(int v) {
        if (waiting.size() == 60) {
            return FULL;
        }
        waiting.add(v);
        return waiting.size();
    }

    List<Integer> turnsTold(int n) {
        State c = image.copied();
        List<Integer> told = new ArrayList<>();
        for (int i = 0; i < n; i++) {
            int leaf = c.draw() % c.leaves.size();
            told.add(10 * leaf + c.asking(leaf));
            told.add(c.bits());
        }
        return told;
    }

    int check(int n) {
        List<Integer> numbers = waiting;
        waiting = new ArrayList<>();
        if (not(1, n, 30)) {
            return BAD;
        }
        if (image == null || image.leaves.isEmpty()) {
            return NO;
        }
        List<Integer> told = turnsTold(n);
        if (told.equals(numbers)) {
            return 0;
        }
        int right = 0;
        while (right < told.size() && right < numbers.size() && told.get(right).equals(numbers.get(right))) {
            right++;
        }
        return 1 + right;
    }

    int keep() {
        image = s.copied();
        return s.leaves.size();
    }

    int back() {
        if (image == null) {
            return NO;
        }
        s = image.copied();
        return s.leaves.size();
    }

    int count(int what) {
        int[] all = {s.leaves.size(), s.vault.size(), s.bits(), s.rooms(s.bits()), s.space, s.rule, s.care, s.turn, s.cost,
            s.row.size(), s.texts.size(), waiting.size(), tape.length(), s.z};
        return not(0, what, 13) ? BAD : all[what];
    }
}
