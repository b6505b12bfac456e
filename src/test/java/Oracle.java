import java.util.ArrayList;
import java.util.Arrays;
import java.util.HashMap;
import java.util.HashSet;
import java.util.List;
import java.util.Map;
import java.util.NoSuchElementException;
import java.util.Set;

/**
 * The document's terms once more, as slowly and plainly as can be: every set, row and path is tried
 * one by one. OracleTest holds TwoHandles against it. It shares no code and no method of counting
 * with the class, so a slip in one of the two shows.
 */
final class Oracle {
    static final int NONE = -1;

    record Door(int worth, int minutes, int until, int about) { }

    record Row(int day, int door, int person, int other) { }

    record Work(int door, int person, int other) {
        int code() {
            return 100 * door + 10 * person + other;
        }
    }

    static final class Fault extends Exception {
        private static final long serialVersionUID = 1L;

        final int kind;
        final int place;

        Fault(int kind, int place) {
            this.kind = kind;
            this.place = place;
        }
    }

    static final class Told {
        int asks = 0;
        int gap = 0;
        int day = 0;
        List<Integer> slate = new ArrayList<>();
        List<List<Integer>> people = new ArrayList<>();
        List<Integer> led = new ArrayList<>();
        Map<Integer, Integer> feigns = new HashMap<>();
        Set<Set<Integer>> kin = new HashSet<>();
        List<Door> doors = new ArrayList<>();

        boolean areKin(int a, int b) {
            return kin.contains(Set.of(a, b));
        }

        int slateOf(int d) {
            return slate.isEmpty() ? 0 : slate.get(d % slate.size());
        }
    }

    static final class World {
        Told told;
        int now = 0;
        int slate = 0;
        int gap = 0;
        List<List<Integer>> thinks = new ArrayList<>();
        List<Integer> left = new ArrayList<>();
        List<Integer> led = new ArrayList<>();
        Set<Integer> open = new HashSet<>();
        List<Row> rows = new ArrayList<>();

        World copy() {
            World w = new World();
            w.told = told;
            w.now = now;
            w.slate = slate;
            w.gap = gap;
            for (List<Integer> t : thinks) {
                w.thinks.add(new ArrayList<>(t));
            }
            w.left.addAll(left);
            w.led.addAll(led);
            w.open.addAll(open);
            w.rows.addAll(rows);
            return w;
        }

        int people() {
            return thinks.size();
        }

        void dawn(int day) {
            now = day;
            slate = told.slateOf(day);
            for (int p = 0; p < left.size(); p++) {
                left.set(p, told.day);
            }
        }

        int asked(int door) {
            int own = told.doors.get(door).about();
            return own == NONE ? slate : own;
        }

        int apart(int a, int b, int q) {
            return Math.abs(thinks.get(a).get(q) - thinks.get(b).get(q));
        }

        int errs(int door, int a, int b) {
            Door d = told.doors.get(door);
            if (open.contains(door)) return 1;
            if (now > d.until()) return 2;
            if (a == b || told.areKin(a, b)) return 3;
            if (left.get(a) < d.minutes() || left.get(b) < d.minutes()) return 4;
            if (apart(a, b, asked(door)) < gap) return 5;
            return 0;
        }

        void nearer(int x, int y, int q) {
            int lo = thinks.get(x).get(q) < thinks.get(y).get(q) ? x : y;
            int hi = lo == x ? y : x;
            int far = apart(x, y, q);
            int a = led.get(lo);
            int b = led.get(hi);
            if (a + b <= far) {
                thinks.get(lo).set(q, thinks.get(lo).get(q) + a);
                thinks.get(hi).set(q, thinks.get(hi).get(q) - b);
            } else {
                int meet = thinks.get(lo).get(q) + far * a / (a + b);
                thinks.get(lo).set(q, meet);
                thinks.get(hi).set(q, meet);
            }
        }

        int play(int door, int a, int b) {
            int q = asked(door);
            nearer(a, b, q);
            open.add(door);
            left.set(a, left.get(a) - told.doors.get(door).minutes());
            left.set(b, left.get(b) - told.doors.get(door).minutes());
            return apart(a, b, q);
        }

        List<Work> works() {
            List<Work> all = new ArrayList<>();
            for (int d = 0; d < told.doors.size(); d++) {
                for (int a = 0; a < people(); a++) {
                    for (int b = a + 1; b < people(); b++) {
                        if (errs(d, a, b) == 0) all.add(new Work(d, a, b));
                    }
                }
            }
            return all;
        }

        int worth(Work w) {
            return told.doors.get(w.door()).worth();
        }

        World behind(Work w) {
            World next = copy();
            next.play(w.door(), w.person(), w.other());
            return next;
        }

        boolean canHave(List<Integer> doors, Set<Integer> people, List<Work> works) {
            if (doors.isEmpty()) return true;
            int d = doors.get(0);
            for (Work w : works) {
                if (w.door() == d && people.contains(w.person()) && people.contains(w.other())) {
                    Set<Integer> fewer = new HashSet<>(people);
                    fewer.remove(w.person());
                    fewer.remove(w.other());
                    if (canHave(doors.subList(1, doors.size()), fewer, works)) return true;
                }
            }
            return false;
        }

        /** {worth, bits} with these people alone. */
        int[] today(int peopleBits) {
            List<Work> works = works();
            Set<Integer> people = new HashSet<>();
            for (int p = 0; p < people(); p++) {
                if ((peopleBits >> p & 1) != 0) people.add(p);
            }
            int most = 0;
            int bits = 0;
            for (int set = 0; set < 1 << told.doors.size(); set++) {
                int sum = 0;
                for (int d : doorsOf(set)) sum += told.doors.get(d).worth();
                if (sum > most && doorsOf(set).size() * 2 <= people.size() && canHave(doorsOf(set), people, works)) {
                    most = sum;
                    bits = set;
                }
            }
            return new int[] {most, bits};
        }

        int[] today() {
            return today((1 << people()) - 1);
        }

        Map<Integer, Integer> pairing() {
            List<Integer> doors = doorsOf(today()[1]);
            Set<Integer> free = new HashSet<>();
            for (int p = 0; p < people(); p++) free.add(p);
            Map<Integer, Integer> out = new HashMap<>();
            List<Work> works = works();
            for (int i = 0; i < doors.size(); i++) {
                for (Work w : works) {
                    if (w.door() != doors.get(i) || !free.contains(w.person()) || !free.contains(w.other())) continue;
                    Set<Integer> fewer = new HashSet<>(free);
                    fewer.remove(w.person());
                    fewer.remove(w.other());
                    if (canHave(doors.subList(i + 1, doors.size()), fewer, works)) {
                        out.put(w.door(), 10 * w.person() + w.other());
                        free = fewer;
                        break;
                    }
                }
            }
            return out;
        }
    }

    static List<Integer> doorsOf(int bits) {
        List<Integer> out = new ArrayList<>();
        for (int d = 0; d < 32; d++) {
            if ((bits >> d & 1) != 0) out.add(d);
        }
        return out;
    }

    // ---- the text, by tokens ----

    record Token(char kind, String text, int place) { }

    static List<Token> tokens(String s) {
        List<Token> out = new ArrayList<>();
        int i = 0;
        while (i < s.length()) {
            char c = s.charAt(i);
            if (c == ' ') {
                i++;
                continue;
            }
            int j = i + 1;
            char kind = 'x';
            if (c >= 'a' && c <= 'z') {
                kind = 'w';
                while (j < s.length() && s.charAt(j) >= 'a' && s.charAt(j) <= 'z') j++;
            } else if (c >= '0' && c <= '9') {
                kind = 'n';
                while (j < s.length() && s.charAt(j) >= '0' && s.charAt(j) <= '9') j++;
            } else if (c == ';') {
                kind = ';';
            }
            out.add(new Token(kind, s.substring(i, j), i));
            i = j;
        }
        out.add(new Token('e', "", s.length()));
        return out;
    }

    static final class Parse {
        final List<Token> tokens;
        int i = 0;
        Told t = new Told();

        Parse(String s) {
            tokens = tokens(s);
            t.gap = 4;
            t.day = 480;
        }

        Token take(char kind) throws Fault {
            Token k = tokens.get(i);
            if (k.kind() != kind) throw new Fault(1, k.place());
            i++;
            return k;
        }

        int number(int least, int most) throws Fault {
            Token k = take('n');
            java.math.BigInteger v = new java.math.BigInteger(k.text());
            if (v.compareTo(java.math.BigInteger.valueOf(least)) < 0 || v.compareTo(java.math.BigInteger.valueOf(most)) > 0) {
                throw new Fault(2, k.place());
            }
            return v.intValue();
        }

        List<Integer> digits(int least, int most, int top) throws Fault {
            Token k = take('n');
            List<Integer> out = new ArrayList<>();
            for (char c : k.text().toCharArray()) {
                if (c - '0' > top) throw new Fault(2, k.place());
                out.add(c - '0');
            }
            if (out.size() < least || out.size() > most) throw new Fault(2, k.place());
            return out;
        }

        Told all() throws Fault {
            Token w = tokens.get(i);
            if (!w.text().equals("asks")) throw new Fault(1, w.place());
            i++;
            t.asks = number(1, 4);
            take(';');
            int clauses = 1;
            while (tokens.get(i).kind() != 'e') {
                clause(clauses);
                take(';');
                clauses++;
            }
            return t;
        }

        void clause(int before) throws Fault {
            Token w = take('w');
            if (!Arrays.asList("person", "feigns", "kin", "door", "gap", "day", "slate").contains(w.text())) {
                throw new Fault(1, w.place());
            }
            if (before == 40) throw new Fault(3, w.place());
            if (w.text().equals("person")) {
                if (t.people.size() == 8) throw new Fault(3, w.place());
                List<Integer> o = digits(t.asks, t.asks, 8);
                int l = number(0, 4);
                t.people.add(o);
                t.led.add(l);
            } else if (w.text().equals("feigns")) {
                int k = number(0, t.people.size() - 1);
                t.feigns.put(k, number(0, 9));
            } else if (w.text().equals("kin")) {
                int k = number(0, t.people.size() - 1);
                Token j = tokens.get(i);
                int other = number(0, t.people.size() - 1);
                if (other == k) throw new Fault(2, j.place());
                t.kin.add(Set.of(k, other));
            } else if (w.text().equals("door")) {
                if (t.doors.size() == 10) throw new Fault(3, w.place());
                int worth = number(1, 99);
                int minutes = number(1, 240);
                int until = number(0, 29);
                int about = tokens.get(i).kind() == 'n' ? number(0, t.asks - 1) : NONE;
                t.doors.add(new Door(worth, minutes, until, about));
            } else if (w.text().equals("gap")) {
                t.gap = number(1, 8);
            } else if (w.text().equals("day")) {
                t.day = number(30, 999);
            } else {
                t.slate = digits(1, 7, t.asks - 1);
            }
        }
    }

    // ---- the face ----

    private final List<Integer> tape = new ArrayList<>();
    private int fault = NONE;
    private World w = fresh(new Told());
    private List<World> images = new ArrayList<>();

    static World fresh(Told t) {
        World w = new World();
        w.told = t;
        w.gap = t.gap;
        for (List<Integer> o : t.people) {
            w.thinks.add(new ArrayList<>(o));
            w.left.add(t.day);
        }
        w.led.addAll(t.led);
        w.slate = t.slateOf(0);
        return w;
    }

    public int feed(int a, int b, int c, int d, int e) {
        if (tape.size() + 20 > 500) return NONE;
        for (int v : new int[] {a, b, c, d, e}) {
            for (byte x : java.nio.ByteBuffer.allocate(4).putInt(v).array()) tape.add(x & 255);
        }
        return tape.size();
    }

    public int town(int n) {
        if (n < 0 || n > tape.size()) throw new IllegalArgumentException();
        StringBuilder s = new StringBuilder();
        for (int i = 0; i < n; i++) s.append((char) (int) tape.get(i));
        tape.clear();
        try {
            Told t = new Parse(s.toString()).all();
            fault = NONE;
            w = fresh(t);
            images.clear();
            return t.people.size();
        } catch (Fault f) {
            fault = f.place;
            return f.kind - 10;
        }
    }

    public int fault() {
        return fault;
    }

    private void arg(boolean ok) {
        if (!ok) throw new IllegalArgumentException();
    }

    private void what(int what, int most) {
        arg(what >= 0 && what <= most);
    }

    private void isPerson(int p) {
        if (p < 0 || p >= w.people()) throw new NoSuchElementException();
    }

    private void isDoor(int d) {
        if (d < 0 || d >= w.told.doors.size()) throw new IndexOutOfBoundsException();
    }

    private void isQuestion(int q) {
        arg(q >= 0 && q < w.told.asks);
    }

    private void isDays(int days) {
        arg(days >= 1 && days <= 30 - w.now);
    }

    private void isRule(int r) {
        arg(r >= 0 && r <= 3);
    }

    private World supposing(int q) {
        if (q != NONE) isQuestion(q);
        World s = w.copy();
        if (q != NONE) s.slate = q;
        return s;
    }

    public int told(int what) {
        what(what, 6);
        return new int[] {w.told.asks, w.told.people.size(), w.told.doors.size(), w.told.gap, w.told.day,
            w.told.kin.size(), w.told.slate.size()}[what];
    }

    public int thinks(int p, int q) {
        isPerson(p);
        isQuestion(q);
        return w.thinks.get(p).get(q);
    }

    public int person(int p, int what) {
        isPerson(p);
        what(what, 3);
        int kin = 0;
        for (Set<Integer> k : w.told.kin) kin += k.contains(p) ? 1 : 0;
        return new int[] {w.told.led.get(p), w.left.get(p), w.told.feigns.getOrDefault(p, 0), kin}[what];
    }

    public int door(int d, int what) {
        isDoor(d);
        what(what, 4);
        Door k = w.told.doors.get(d);
        return new int[] {k.worth(), k.minutes(), k.until(), k.about(), w.open.contains(d) ? 1 : 0}[what];
    }

    public int slate(int day) {
        arg(day >= 0 && day <= 29);
        return w.told.slateOf(day);
    }

    public int work(int d, int a, int b) {
        int by = may(d, a, b);
        return by != 0 ? -by : w.play(d, a, b);
    }

    public int may(int d, int a, int b) {
        isDoor(d);
        isPerson(a);
        isPerson(b);
        return w.errs(d, a, b);
    }

    public int next() {
        if (w.told.asks == 0) throw new IllegalStateException();
        if (w.now == 29) return -1;
        w.dawn(w.now + 1);
        return w.now;
    }

    private static void step(World s, int a, int b, int q) {
        int x = s.thinks.get(a).get(q);
        int y = s.thinks.get(b).get(q);
        if (x < y) s.thinks.get(a).set(q, x + 1);
        if (x > y) s.thinks.get(a).set(q, x - 1);
    }

    public int talk(int a, int b, int q) {
        isPerson(a);
        isPerson(b);
        isQuestion(q);
        arg(a != b);
        step(w, a, b, q);
        return w.thinks.get(a).get(q);
    }

    public int earned(int what) {
        what(what, 1);
        int sum = 0;
        for (int d = 0; d < w.told.doors.size(); d++) {
            boolean in = w.open.contains(d);
            boolean late = w.now > w.told.doors.get(d).until();
            if (what == 0 && in || what == 1 && late && !in) sum += w.told.doors.get(d).worth();
        }
        return sum;
    }

    public int row(int day, int d, int a, int b) {
        isDoor(d);
        isPerson(a);
        isPerson(b);
        arg(day >= 0 && day <= 29);
        if (w.rows.size() == 30) return -1;
        w.rows.add(new Row(day, d, a, b));
        return w.rows.size();
    }

    public int clear() {
        int n = w.rows.size();
        w.rows.clear();
        return n;
    }

    public int judge(int what) {
        what(what, 1);
        World s = w.copy();
        List<Integer> errors = new ArrayList<>();
        int sum = 0;
        for (Row r : w.rows) {
            if (r.day() < s.now) {
                errors.add(6);
                continue;
            }
            if (r.day() != s.now) s.dawn(r.day());
            int by = s.errs(r.door(), r.person(), r.other());
            errors.add(by);
            if (by == 0) {
                s.play(r.door(), r.person(), r.other());
                sum += w.told.doors.get(r.door()).worth();
            }
        }
        if (what == 1) return sum;
        for (int i = 0; i < errors.size(); i++) {
            if (errors.get(i) != 0) return 10 * i + errors.get(i);
        }
        return NONE;
    }

    public int today(int q, int what) {
        World s = supposing(q);
        what(what, 1);
        return s.today()[what];
    }

    public int pair(int q, int d) {
        World s = supposing(q);
        isDoor(d);
        return s.pairing().getOrDefault(d, NONE);
    }

    public int bound(int q) {
        World s = supposing(q);
        Map<Integer, Integer> worths = new HashMap<>();
        for (Work k : s.works()) worths.put(k.door(), s.worth(k));
        List<Integer> sorted = new ArrayList<>(worths.values());
        sorted.sort(java.util.Comparator.reverseOrder());
        int sum = 0;
        for (int i = 0; i < s.people() / 2 && i < sorted.size(); i++) sum += sorted.get(i);
        return sum;
    }

    public int need(int q, int what) {
        World s = supposing(q);
        what(what, 1);
        int due = s.today()[0];
        for (int size = 0; size <= s.people(); size++) {
            for (int bits = 0; bits < 1 << s.people(); bits++) {
                if (Integer.bitCount(bits) == size && s.today(bits)[0] == due) return what == 0 ? size : bits;
            }
        }
        throw new AssertionError();
    }

    public int choose() {
        int chosen = NONE;
        for (int q = 0; q < w.told.asks; q++) {
            if (chosen == NONE || supposing(q).today()[0] > supposing(chosen).today()[0]) chosen = q;
        }
        return chosen;
    }

    public int stranger(int q, int thinks, int led) {
        World s = supposing(q);
        arg(w.told.asks > 0);
        arg(led >= 0 && led <= 4);
        arg(thinks >= 0);
        StringBuilder digits = new StringBuilder(Integer.toString(thinks)).reverse();
        arg(digits.length() <= w.told.asks);
        while (digits.length() < w.told.asks) digits.append('0');
        arg(digits.indexOf("9") < 0);
        int before = s.today()[0];
        List<Integer> o = new ArrayList<>();
        for (char c : digits.toString().toCharArray()) o.add(c - '0');
        s.thinks.add(o);
        s.left.add(w.told.day);
        s.led.add(led);
        return s.today()[0] - before;
    }

    public int night(int q) {
        isQuestion(q);
        if (w.now == 29) return NONE;
        World s = w.copy();
        s.dawn(w.now + 1);
        int most = s.today()[0];
        int chosen = NONE;
        for (int a = 0; a < s.people(); a++) {
            for (int b = 0; b < s.people(); b++) {
                if (a == b) continue;
                World t = s.copy();
                step(t, a, b, q);
                if (t.today()[0] > most) {
                    most = t.today()[0];
                    chosen = 10 * a + b;
                }
            }
        }
        return chosen;
    }

    public int best(int what) {
        what(what, 2);
        List<List<Work>> rows = new ArrayList<>();
        rows.add(List.of());
        for (Work x : w.works()) rows.add(List.of(x));
        for (Work x : w.works()) {
            for (Work y : w.behind(x).works()) rows.add(List.of(x, y));
        }
        int most = -1;
        List<Work> chosen = null;
        for (List<Work> r : rows) {
            int sum = 0;
            for (Work x : r) sum += w.worth(x);
            if (sum > most) {
                most = sum;
                chosen = r;
            }
        }
        return what == 0 ? most : what <= chosen.size() ? chosen.get(what - 1).code() : NONE;
    }

    /** {worth, works, open, first, starved}. */
    private int[] goOn(World s, int rule, int days, Long seed) {
        int worth = 0;
        int works = 0;
        int first = NONE;
        int starved = NONE;
        int from = s.now;
        for (int day = from; day < from + days; day++) {
            if (day != from) s.dawn(day);
            if (seed != null) {
                seed = (seed * 1103515245L + 12345L) & 0xffffffffL;
                s.slate = s.told.asks == 0 ? 0 : (int) ((seed >> 16 & 0x7fff) % s.told.asks);
            }
            boolean waits = false;
            for (int d = 0; d < s.told.doors.size(); d++) {
                waits |= !s.open.contains(d) && s.told.doors.get(d).until() >= day;
            }
            boolean any = false;
            while (true) {
                final World at = s;
                List<Work> all = s.works();
                if (all.isEmpty()) break;
                java.util.Comparator<Work> by = java.util.Comparator.comparingDouble((Work k) -> switch (rule) {
                    case 0 -> -at.apart(k.person(), k.other(), at.asked(k.door()));
                    case 1 -> at.apart(k.person(), k.other(), at.asked(k.door()));
                    case 2 -> at.led.get(k.person()) + at.led.get(k.other());
                    default -> -(double) at.worth(k) / at.told.doors.get(k.door()).minutes();
                });
                all.sort(by.thenComparing((Work k) -> -at.worth(k)).thenComparing(Work::code));
                Work k = all.get(0);
                s.play(k.door(), k.person(), k.other());
                any = true;
                works++;
                worth += s.worth(k);
                if (first == NONE) first = k.code();
            }
            if (waits && !any && starved == NONE) starved = day;
        }
        return new int[] {worth, works, s.open.size(), first, starved};
    }

    public int run(int rule, int days, int what) {
        isRule(rule);
        isDays(days);
        what(what, 3);
        return goOn(w.copy(), rule, days, null)[what];
    }

    public int lot(int rule, int days, int what, int seed) {
        isRule(rule);
        isDays(days);
        what(what, 3);
        return goOn(w.copy(), rule, days, seed & 0xffffffffL)[what];
    }

    public int rule(int days) {
        isDays(days);
        int chosen = 0;
        for (int r = 1; r < 4; r++) {
            if (goOn(w.copy(), r, days, null)[0] > goOn(w.copy(), chosen, days, null)[0]) chosen = r;
        }
        return chosen;
    }

    private List<World> fewBehind(World s, List<Integer> who, int q) {
        List<World> out = new ArrayList<>();
        for (int a : who) {
            for (int b : who) {
                if (a < b && !s.told.areKin(a, b) && s.apart(a, b, q) >= s.gap) {
                    World t = s.copy();
                    t.nearer(a, b, q);
                    out.add(t);
                }
            }
        }
        return out;
    }

    private String mind(World s, List<Integer> who, int q) {
        StringBuilder out = new StringBuilder();
        for (int p : who) out.append(s.thinks.get(p).get(q));
        return out.toString();
    }

    /** The longest way from here; -1 if one comes to where one has been. */
    private int longest(World s, List<Integer> who, int q, Set<String> onWay, Map<String, Integer> known) {
        String here = mind(s, who, q);
        if (onWay.contains(here)) return -1;
        if (known.containsKey(here)) return known.get(here);
        onWay.add(here);
        int most = 0;
        for (World t : fewBehind(s, who, q)) {
            int l = longest(t, who, q, onWay, known);
            if (l < 0) {
                onWay.remove(here);
                return -1;
            }
            most = Math.max(most, l + 1);
        }
        onWay.remove(here);
        known.put(here, most);
        return most;
    }

    public int few(int bits, int q, int what) {
        arg(bits > 0 && bits < 1 << w.people());
        List<Integer> who = doorsOf(bits);
        arg(who.size() >= 2 && who.size() <= 4);
        isQuestion(q);
        what(what, 1);
        if (what == 0) return longest(w.copy(), who, q, new HashSet<>(), new HashMap<>());
        Set<String> seen = new HashSet<>();
        List<World> layer = List.of(w.copy());
        for (int works = 0; !layer.isEmpty(); works++) {
            List<World> nextLayer = new ArrayList<>();
            for (World s : layer) {
                List<World> all = fewBehind(s, who, q);
                if (all.isEmpty()) return works;
                for (World t : all) {
                    if (seen.add(mind(t, who, q))) nextLayer.add(t);
                }
            }
            layer = nextLayer;
        }
        return NONE;
    }

    private boolean could(int a, int b, int q, int gap) {
        return a != b && !w.told.areKin(a, b) && w.apart(a, b, q) >= gap;
    }

    private int groups(int q, int gap, int size) {
        int found = 0;
        for (int bits = 0; bits < 1 << w.people(); bits++) {
            if (Integer.bitCount(bits) != size) continue;
            boolean all = true;
            for (int a : doorsOf(bits)) {
                for (int b : doorsOf(bits)) all &= a == b || could(a, b, q, gap);
            }
            found += all ? 1 : 0;
        }
        return found;
    }

    public int pairs(int q, int what) {
        isQuestion(q);
        what(what, 1);
        return groups(q, w.told.gap, what + 2);
    }

    public int edge(int q, int what) {
        isQuestion(q);
        what(what, 1);
        int edge = 0;
        for (int gap = 1; gap <= 8; gap++) {
            if (groups(q, gap, what + 2) > 0) edge = gap;
        }
        return edge;
    }

    public int rest(int p, int win, int lose, int cost, int gain, int what) {
        isPerson(p);
        for (int v : new int[] {win, lose, cost, gain}) arg(v >= 1 && v <= 99);
        what(what, 1);
        int n = w.told.feigns.getOrDefault(p, 0);
        long v = what == 0 ? 10000L * win / ((10L - n) * (win + lose)) : 10000L * cost / ((10L - n) * gain);
        return (int) Math.min(1000, v);
    }

    private int matching(int q, Set<Integer> free) {
        int most = 0;
        for (int a : free) {
            for (int b : free) {
                if (a < b && could(a, b, q, w.told.gap)) {
                    Set<Integer> fewer = new HashSet<>(free);
                    fewer.remove(a);
                    fewer.remove(b);
                    most = Math.max(most, 1 + matching(q, fewer));
                }
            }
        }
        return most;
    }

    public int once(int q) {
        isQuestion(q);
        Set<Integer> all = new HashSet<>();
        for (int p = 0; p < w.people(); p++) all.add(p);
        return matching(q, all);
    }

    public int calm(int q, int what) {
        isQuestion(q);
        what(what, 1);
        for (int size = w.people(); size >= 0; size--) {
            for (int bits = 0; bits < 1 << w.people(); bits++) {
                if (Integer.bitCount(bits) != size) continue;
                boolean quiet = true;
                for (int a : doorsOf(bits)) {
                    for (int b : doorsOf(bits)) quiet &= !could(a, b, q, w.told.gap);
                }
                if (quiet) return what == 0 ? size : bits;
            }
        }
        throw new AssertionError();
    }

    public int family(int p) {
        if (p != NONE) arg(p >= 0 && p < w.people());
        int[] head = new int[w.people()];
        for (int i = 0; i < head.length; i++) head[i] = i;
        for (Set<Integer> k : w.told.kin) {
            List<Integer> two = new ArrayList<>(k);
            int x = head[two.get(0)];
            int y = head[two.get(1)];
            for (int i = 0; i < head.length; i++) if (head[i] == y) head[i] = x;
        }
        if (p == NONE) return (int) Arrays.stream(head).distinct().count();
        return (int) Arrays.stream(head).filter(h -> h == head[p]).count();
    }

    public int starved(int rule) {
        isRule(rule);
        return goOn(w.copy(), rule, 30 - w.now, null)[4];
    }

    public int slack(int q) {
        World s = supposing(q);
        int due = s.today()[0];
        if (due == 0) return 0;
        int slack = 0;
        for (int gap = 1; gap <= 8; gap++) {
            s.gap = gap;
            if (s.today()[0] == due) slack = gap;
        }
        return slack;
    }

    public int firm(int p, int rule, int days) {
        isPerson(p);
        isRule(rule);
        isDays(days);
        World s = w.copy();
        s.led.set(p, 0);
        return goOn(s, rule, days, null)[0] - goOn(w.copy(), rule, days, null)[0];
    }

    public int twoDays(int what) {
        what(what, 2);
        List<Work[]> rows = new ArrayList<>();
        rows.add(new Work[] {null, null});
        for (Work x : w.works()) rows.add(new Work[] {x, null});
        if (w.now < 29) {
            World s = w.copy();
            s.dawn(w.now + 1);
            for (Work y : s.works()) rows.add(new Work[] {null, y});
            for (Work x : w.works()) {
                World t = w.behind(x);
                t.dawn(w.now + 1);
                for (Work y : t.works()) rows.add(new Work[] {x, y});
            }
        }
        int most = -1;
        Work[] chosen = null;
        for (Work[] r : rows) {
            int sum = (r[0] == null ? 0 : w.worth(r[0])) + (r[1] == null ? 0 : w.worth(r[1]));
            if (sum > most) {
                most = sum;
                chosen = r;
            }
        }
        return what == 0 ? most : chosen[what - 1] == null ? NONE : chosen[what - 1].code();
    }

    public int image() {
        if (images.size() == 3) return -1;
        images.add(w.copy());
        return images.size();
    }

    public int restore() {
        if (images.isEmpty()) return -1;
        w = images.remove(images.size() - 1);
        return images.size();
    }

    public int count(int what) {
        return switch (what) {
            case 0 -> w.now;
            case 1 -> w.open.size();
            case 2 -> w.rows.size();
            case 3 -> images.size();
            case 4 -> tape.size();
            default -> NONE;
        };
    }
}
