import java.util.ArrayList;
import java.util.HashMap;
import java.util.List;
import java.util.Map;
import java.util.NoSuchElementException;
import java.util.regex.Matcher;
import java.util.regex.Pattern;

/** The document once more, as slow and plain as can be: every second is gone through, every row and set is tried. */
final class Model {
    static final List<String> LINES = List.of("house", "drink", "staff", "person", "shelf", "says");
    static final List<String> RULES = List.of("row", "near", "eye", "asked", "regular");
    static final List<String> MANNERS = List.of("honest", "liar", "polite", "regular");

    static final class Fault extends RuntimeException {
        final int number;
        final int place;

        Fault(int number, int place) {
            super(null, null, false, false);
            this.number = number;
            this.place = place;
        }
    }

    static final class Man {
        String name;
        int manner, by, comes, place, patience, look, shelf = -2, says;
        int state, begun = -2, has = -2, end, whom = -2, passed, pushed;
        int[] wants = new int[5];

        Man copy() {
            Man m = new Man();
            m.name = name; m.manner = manner; m.by = by; m.comes = comes; m.place = place; m.patience = patience;
            m.look = look; m.shelf = shelf; m.says = says; m.state = state; m.begun = begun; m.has = has; m.end = end;
            m.whom = whom; m.passed = passed; m.pushed = pushed; m.wants = wants.clone();
            return m;
        }

        void manner(int newManner, int newBy) {
            manner = newManner;
            by = newBy;
            says = comes + (manner == 1 ? -by : manner == 2 ? by : 0);
        }
    }

    static final class Barman {
        int rule, place, from, to, step;
        int[] last = new int[5];
        List<Integer> hands = new ArrayList<>();

        Barman copy() {
            Barman b = new Barman();
            b.rule = rule; b.place = place; b.from = from; b.to = to; b.step = step; b.last = last.clone();
            b.hands = new ArrayList<>(hands);
            return b;
        }
    }

    static final class World {
        int now, bell;
        List<Man> men = new ArrayList<>();
        List<Barman> staff = new ArrayList<>();
        List<Integer> log = new ArrayList<>();

        World copy() {
            World w = new World();
            w.now = now;
            w.bell = bell;
            for (Man m : men) w.men.add(m.copy());
            for (Barman b : staff) w.staff.add(b.copy());
            w.log.addAll(log);
            return w;
        }
    }

    StringBuilder tape = new StringBuilder();
    int places, bell, drinks, shelves;
    int[][] drink = new int[5][];
    List<int[]> says = new ArrayList<>();
    World start = new World();
    World world = new World();
    List<World> undo = new ArrayList<>();
    List<World> images = new ArrayList<>();
    int trouble, fault, faultPlace;

    // ---- reading

    private static final class Text {
        final List<String> tokens = new ArrayList<>();
        final List<Integer> at = new ArrayList<>();
        int i;

        Text(String text) {
            Matcher m = Pattern.compile("[a-z]+|[0-9]+|[^ ]").matcher(text);
            while (m.find()) {
                tokens.add(m.group());
                at.add(m.start());
            }
            tokens.add("");
            at.add(text.length());
        }

        String see() {
            return tokens.get(i);
        }

        int place() {
            return at.get(i);
        }

        Fault bad(int number) {
            return new Fault(number, place());
        }

        String word() {
            if (!see().matches("[a-z]{1,8}")) throw bad(1);
            return see();
        }

        String name() {
            if (LINES.contains(word())) throw bad(1);
            return see();
        }

        void key(String key) {
            if (!word().equals(key)) throw bad(1);
            i++;
        }

        int whole(int low, int high) {
            if (!see().matches("[0-9]{1,3}")) throw bad(1);
            int n = Integer.parseInt(see());
            if (n < low || n > high) throw bad(4);
            i++;
            return n;
        }

        int oneOf(List<String> words) {
            int k = words.indexOf(word());
            if (k < 0) throw bad(1);
            i++;
            return k;
        }
    }

    private static int use(Text t, Map<String, int[]> names, int sort) {
        int[] known = names.get(t.name());
        if (known == null || known[0] != sort) throw t.bad(2);
        return known[1];
    }

    private static void tell(Text t, Map<String, int[]> names, int sort, int number) {
        if (names.containsKey(t.name())) throw t.bad(3);
        names.put(t.see(), new int[] {sort, number});
        t.i++;
    }

    private static Model parse(String text) {
        Model m = new Model();
        Text t = new Text(text);
        Map<String, int[]> names = new HashMap<>();
        for (boolean more = true; more; ) {
            int line = LINES.indexOf(t.word());
            if (line < 0) throw t.bad(1);
            if (line == 0 && m.places > 0) throw t.bad(3);
            if (line > 0 && m.places == 0) throw t.bad(6);
            if (line == 1 && m.drinks == 5 || line == 2 && m.start.staff.size() == 3
                || line == 3 && m.start.men.size() == 10 || line == 5 && m.says.size() == 8) throw t.bad(5);
            t.i++;
            m.line(line, t, names);
            more = t.see().equals(";");
            if (more) t.i++;
        }
        if (!t.see().isEmpty()) throw t.bad(1);
        if (m.drinks == 0 || m.start.staff.isEmpty() || m.start.men.isEmpty()) throw t.bad(6);
        m.start.bell = m.bell;
        return m;
    }

    private void line(int line, Text t, Map<String, int[]> names) {
        if (line == 0) {
            t.key("long");
            places = t.whole(1, 20);
            t.key("bell");
            bell = t.whole(1, 600);
        } else if (line == 1) {
            tell(t, names, 1, drinks);
            int[] d = new int[3];
            t.key("takes");
            d[0] = t.whole(1, 90);
            t.key("then");
            d[1] = t.whole(0, d[0]);
            t.key("costs");
            d[2] = t.whole(0, 99);
            drink[drinks++] = d;
        } else if (line == 2) {
            tell(t, names, 2, start.staff.size());
            Barman b = new Barman();
            b.rule = t.oneOf(RULES);
            t.key("at");
            b.place = t.whole(0, places - 1);
            t.key("from");
            b.from = t.whole(0, places - 1);
            t.key("to");
            b.to = t.whole(b.from, places - 1);
            t.key("step");
            b.step = t.whole(0, 9);
            t.key("hands");
            for (int h = t.whole(1, 2); h > 0; h--) b.hands.add(0);
            start.staff.add(b);
        } else if (line == 3) {
            tell(t, names, 3, start.men.size());
            start.men.add(man(t, names));
        } else if (line == 4) {
            Man who = start.men.get(use(t, names, 3));
            if (who.shelf != -2) throw t.bad(3);
            t.i++;
            t.key("ready");
            who.shelf = t.whole(0, bell);
            shelves++;
        } else {
            int[] s = new int[3];
            s[0] = use(t, names, 3);
            t.i++;
            s[1] = use(t, names, 3);
            t.i++;
            t.key("before");
            s[2] = use(t, names, 3);
            if (s[1] == s[2]) throw t.bad(3);
            t.i++;
            says.add(s);
        }
    }

    private Man man(Text t, Map<String, int[]> names) {
        Man m = new Man();
        int manner = t.oneOf(MANNERS);
        int by = manner == 1 || manner == 2 ? t.whole(1, 99) : 0;
        t.key("comes");
        m.comes = t.whole(0, bell);
        t.key("at");
        m.place = t.whole(0, places - 1);
        t.key("patience");
        m.patience = t.whole(0, 600);
        t.key("look");
        m.look = t.whole(0, 99);
        m.manner(manner, by);
        t.key("wants");
        for (int n = 0; ; n++) {
            int d = use(t, names, 1);
            if (m.wants[d] > 0) throw t.bad(3);
            if (n == 3) throw t.bad(5);
            t.i++;
            m.wants[d] = t.whole(1, 9);
            if (!t.see().equals(",")) return m;
            t.i++;
        }
    }

    // ---- seconds

    int time(int[] last, int[] wants) {
        int sum = 0;
        for (int d = 0; d < drinks; d++) {
            for (int g = 0; g < wants[d]; g++) {
                sum += g > 0 || last[d] > 0 ? drink[d][1] : drink[d][0];
            }
        }
        return sum;
    }

    int cost(Man m) {
        int sum = 0;
        for (int d = 0; d < drinks; d++) sum += m.wants[d] * drink[d][2];
        return sum;
    }

    static boolean firstCame(World w, int a, int b) {
        return w.men.get(a).comes != w.men.get(b).comes ? w.men.get(a).comes < w.men.get(b).comes : a < b;
    }

    /** Whether a barman takes a rather than b. */
    boolean rather(World w, Barman b, int x, int y) {
        Man a = w.men.get(x);
        Man o = w.men.get(y);
        if (b.rule == 0) {
            for (int i = 0, at = b.place; i < 2 * places + 2; i++, at++) {
                if (at > b.to) at = b.from;
                if (a.place == at && o.place != at) return true;
                if (o.place == at && a.place != at) return false;
                if (o.place == at && a.place == at) break;
            }
        } else if (b.rule == 1) {
            int da = Math.abs(a.place - b.place);
            int db = Math.abs(o.place - b.place);
            if (da != db) return da < db;
            if (a.place != o.place) return a.place < o.place;
        } else if (b.rule == 2) {
            if (a.look != o.look) return a.look > o.look;
        } else if (b.rule == 3) {
            if (a.says != o.says) return a.says < o.says;
        } else if ((a.manner == 3) != (o.manner == 3)) {
            return a.manner == 3;
        }
        return firstCame(w, x, y);
    }

    int pick(World w, Barman b) {
        int best = -2;
        for (int p = 0; p < w.men.size(); p++) {
            Man m = w.men.get(p);
            if (m.state == 1 && m.place >= b.from && m.place <= b.to && (best < 0 || rather(w, b, p, best))) best = p;
        }
        return best;
    }

    void second(World w, int t) {
        for (Man m : w.men) if (m.comes == t && m.state == 0) m.state = 1;
        for (Man m : w.men) {
            if (m.state == 1 && m.shelf >= 0 && m.shelf <= t) {
                m.state = 3;
                m.has = m.end = t;
            }
        }
        for (Man m : w.men) {
            if (m.state == 1 && t - m.comes >= m.patience) {
                m.state = 4;
                m.end = t;
            }
        }
        for (int s = 0; s < w.staff.size(); s++) {
            Barman b = w.staff.get(s);
            while (true) {
                int hand = -1;
                for (int h = 0; h < b.hands.size(); h++) if (b.hands.get(h) <= t) hand = h;
                int p = pick(w, b);
                if (hand < 0 || p < 0) break;
                Man m = w.men.get(p);
                for (int q = 0; q < w.men.size(); q++) {
                    Man o = w.men.get(q);
                    if (q != p && o.state == 1 && firstCame(w, q, p)) {
                        o.passed |= 1 << p;
                        m.pushed |= 1 << q;
                    }
                }
                m.state = 2;
                m.begun = m.end = t;
                m.whom = s;
                m.has = t + b.step * Math.abs(b.place - m.place) + time(b.last, m.wants);
                b.place = m.place;
                b.last = m.wants.clone();
                b.hands.set(hand, m.has);
                w.log.add(p);
            }
        }
    }

    World run(World w, int last) {
        for (; w.now <= last; w.now++) second(w, w.now);
        return w;
    }

    World out(World w) {
        return run(w, w.bell);
    }

    static int wait(World w, int p) {
        Man m = w.men.get(p);
        return m.state == 0 || m.state == 5 ? 0 : m.state == 1 ? w.bell - m.comes : m.end - m.comes;
    }

    static boolean served(World w, int p) {
        return w.men.get(p).state == 2 || w.men.get(p).state == 3;
    }

    int total(World w, int what) {
        int sum = 0;
        for (int p = 0; p < w.men.size(); p++) {
            Man m = w.men.get(p);
            if (what == 0 && served(w, p) || what == 1 && m.state == 4 || what == 2 && m.state == 1) sum++;
            if (what == 3) sum += wait(w, p);
            if (what == 4) sum += Integer.bitCount(m.passed);
            if (what == 5 && served(w, p)) sum += cost(m);
        }
        return sum;
    }

    // ---- the face

    private int no(int number, int answer) {
        trouble = number;
        return answer;
    }

    private boolean open() {
        trouble = 0;
        return places > 0;
    }

    private boolean man(int p) {
        trouble = 0;
        return p >= 0 && p < start.men.size();
    }

    private boolean barman(int s) {
        trouble = 0;
        return s >= 0 && s < start.staff.size();
    }

    int feed(int... numbers) {
        if (tape.length() + 20 > 1000) return -1;
        for (int n : numbers) for (int k = 24; k >= 0; k -= 8) tape.append((char) (n >>> k & 255));
        return tape.length();
    }

    int house(int n) {
        if (n < 0 || n > tape.length()) return no(2, -1);
        String text = tape.substring(0, n);
        tape.setLength(0);
        trouble = 0;
        fault = 0;
        try {
            Model m = parse(text);
            places = m.places; bell = m.bell; drinks = m.drinks; shelves = m.shelves; drink = m.drink;
            says = m.says; start = m.start;
            world = start.copy();
            undo.clear();
            images.clear();
            return start.men.size();
        } catch (Fault f) {
            fault = f.number;
            faultPlace = f.place;
            return no(4, -1);
        }
    }

    int fault() {
        return fault;
    }

    int where() {
        return trouble == 4 ? faultPlace : -1;
    }

    int person(int p, int what) {
        if (!man(p) || what < 0 || what > 5) return no(1, -1);
        Man m = world.men.get(p);
        int state = m.state == 2 && m.has <= world.now ? 3 : m.state;
        return new int[] {state, m.place, m.look, m.says, m.begun, m.has}[what];
    }

    int staff(int s, int what) {
        if (!barman(s) || what < 0 || what > 2) return no(1, -1);
        Barman b = world.staff.get(s);
        int busy = 0;
        int first = 99999;
        for (int h : b.hands) {
            if (h > world.now) busy++;
            first = Math.min(first, Math.max(h, world.now));
        }
        return new int[] {b.place, busy, first}[what];
    }

    int elbows(int place) {
        trouble = 0;
        if (place < 0 || place >= places) return no(1, -1);
        int n = 0;
        for (Man m : world.men) if (m.state == 1 && m.place == place) n++;
        return n;
    }

    private List<Integer> queue() {
        List<Integer> all = new ArrayList<>();
        for (int p = 0; p < world.men.size(); p++) if (world.men.get(p).state == 1) all.add(p);
        return all;
    }

    int waiting() {
        return open() ? queue().size() : no(1, -1);
    }

    int next(int s) {
        return barman(s) ? pick(world, world.staff.get(s)) : no(1, -1);
    }

    int time(int s, int p) {
        return barman(s) && man(p) ? time(world.staff.get(s).last, world.men.get(p).wants) : no(1, -1);
    }

    int costs(int p) {
        return man(p) ? cost(world.men.get(p)) : no(1, -1);
    }

    private World eve() {
        return out(world.copy());
    }

    int fate(int p) {
        return man(p) ? new int[] {-9, 3, 0, 1, 2, 4}[eve().men.get(p).state] : no(1, -1);
    }

    int waits(int p) {
        return !man(p) ? no(1, -1) : world.men.get(p).state == 5 ? -2 : wait(eve(), p);
    }

    int whom(int p) {
        return man(p) ? eve().men.get(p).whom : no(1, -1);
    }

    int has(int p) {
        return man(p) ? eve().men.get(p).has : no(1, -1);
    }

    int passed(int p) {
        return man(p) ? eve().men.get(p).passed : no(1, -1);
    }

    int pushed(int p) {
        return man(p) ? eve().men.get(p).pushed : no(1, -1);
    }

    int sum(int what) {
        return open() && what >= 0 && what <= 5 ? total(eve(), what) : no(1, -1);
    }

    int served(int i) {
        trouble = 0;
        List<Integer> log = eve().log;
        return i >= 0 && i < log.size() ? log.get(i) : no(1, -1);
    }

    private World ruled(int rule, boolean roving) {
        World w = world.copy();
        for (Barman b : w.staff) {
            b.rule = rule;
            if (roving) {
                b.from = 0;
                b.to = places - 1;
            }
        }
        return out(w);
    }

    int by(int rule, boolean roving, int what) {
        if (!open() || rule < 0 || rule > 4 || what < 0 || what > 5) return no(1, -1);
        return total(ruled(rule, roving), what);
    }

    int bestRule(boolean turn) {
        if (!open()) return no(1, -1);
        int best = -1;
        int score = 0;
        for (int r = 4; r >= 0; r--) {
            int v = turn ? -total(ruled(r, false), 4) : total(ruled(r, false), 0);
            if (best < 0 || v >= score) {
                best = r;
                score = v;
            }
        }
        return best;
    }

    int hand() {
        if (!open()) return no(1, -100);
        World w = world.copy();
        Barman b = new Barman();
        b.rule = 3;
        b.place = places / 2;
        b.to = places - 1;
        b.step = 1;
        b.hands.add(0);
        w.staff.add(b);
        return total(out(w), 0) - total(eve(), 0);
    }

    private boolean away(int p) {
        if (!man(p)) trouble = 1;
        else if (world.men.get(p).state != 0) trouble = 5;
        return trouble == 0;
    }

    int beforehand(int p) {
        if (!away(p)) return -1000;
        World w = world.copy();
        if (w.men.get(p).shelf != -2) return no(5, -1000);
        w.men.get(p).shelf = w.men.get(p).comes;
        return total(eve(), 3) - total(out(w), 3);
    }

    interface Change {
        void on(Man m, int i);
    }

    private int best(int p, int choices, Change change) {
        if (!away(p)) return -1;
        int best = -2;
        int least = 99999;
        for (int i = 0; i < choices; i++) {
            World w = world.copy();
            change.on(w.men.get(p), i);
            out(w);
            if (served(w, p) && wait(w, p) < least) {
                least = wait(w, p);
                best = i;
            }
        }
        return best;
    }

    int bestPlace(int p) {
        return best(p, places, (m, i) -> m.place = i);
    }

    int bestManner(int p) {
        return best(p, 4, (m, i) -> m.manner(i, 30));
    }

    int leastLook(int p) {
        return best(p, 100, (m, i) -> m.look = i);
    }

    private int[] cuts() {
        if (!open()) {
            trouble = 1;
            return new int[] {-1, -1};
        }
        if (start.staff.size() < 2 || places < 2) {
            trouble = 5;
            return new int[] {-1, -1};
        }
        int[] best = null;
        for (int c = 0; c <= places - 2; c++) {
            World w = world.copy();
            w.staff.get(0).from = 0;
            w.staff.get(0).to = c;
            w.staff.get(1).from = c + 1;
            w.staff.get(1).to = places - 1;
            int sum = total(out(w), 3);
            if (best == null || sum < best[1]) best = new int[] {c, sum};
        }
        return best;
    }

    int cut() {
        return cuts()[0];
    }

    int cutWaits() {
        return cuts()[1];
    }

    private int mayLet(int p, int q) {
        if (!man(p) || !man(q) || p == q) return 1;
        Man a = world.men.get(p);
        Man b = world.men.get(q);
        return a.state != 1 || b.state != 1 || a.says > b.says ? 5 : 0;
    }

    int letCosts(int p, int q) {
        trouble = mayLet(p, q);
        if (trouble != 0) return -1000;
        World w = world.copy();
        w.men.get(p).says = w.men.get(q).says + 1;
        return wait(out(w), p) - wait(eve(), p);
    }

    int bell(int second, int what) {
        if (!open() || what < 0 || what > 5) return no(1, -1);
        if (second < world.now || second > 900) return no(2, -1);
        World w = world.copy();
        w.bell = second;
        return total(out(w), what);
    }

    int waitingAt(int second) {
        if (!open()) return no(1, -1);
        if (second < world.now || second > bell) return no(2, -1);
        return total(run(world.copy(), second), 2);
    }

    private World liarWorld(int set) {
        World w = start.copy();
        for (int p = 0; p < w.men.size(); p++) w.men.get(p).manner(set >> p & 1, 30);
        return out(w);
    }

    int honesty(int set, boolean others) {
        if (!open()) return no(1, -1);
        if (set < 0 || set >= 1 << start.men.size()) return no(2, -1);
        World w = liarWorld(set);
        int sum = 0;
        for (int p = 0; p < w.men.size(); p++) if ((set >> p & 1) == (others ? 0 : 1)) sum += wait(w, p);
        return sum;
    }

    private boolean atRest(int set) {
        World w = liarWorld(set);
        for (int p = 0; p < w.men.size(); p++) if (wait(liarWorld(set ^ 1 << p), p) < wait(w, p)) return false;
        return true;
    }

    int rest(int set) {
        if (!open()) return no(1, -1);
        if (set < 0 || set >= 1 << start.men.size()) return no(2, -1);
        return atRest(set) ? 1 : 0;
    }

    int rests() {
        if (!open()) return no(1, -1);
        if (start.men.size() > 7) return no(3, -1);
        int n = 0;
        for (int set = 0; set < 1 << start.men.size(); set++) if (atRest(set)) n++;
        return n;
    }

    private int bestSum;
    private List<Integer> bestRow;

    private void rows(List<Integer> row, List<Integer> left, int[] last, int clock, int sum) {
        if (left.isEmpty()) {
            if (bestRow == null || sum < bestSum) {
                bestSum = sum;
                bestRow = new ArrayList<>(row);
            }
            return;
        }
        for (int i = 0; i < left.size(); i++) {
            int p = left.remove(i);
            row.add(p);
            int done = clock + time(last, world.men.get(p).wants);
            rows(row, left, world.men.get(p).wants, done, sum + done);
            row.remove(row.size() - 1);
            left.add(i, p);
        }
    }

    private void rows(int s) {
        bestRow = null;
        rows(new ArrayList<>(), queue(), world.staff.get(s).last, 0, 0);
    }

    int row(int s, int i) {
        if (!barman(s) || i < 0 || i >= queue().size()) return no(1, -1);
        if (queue().size() > 7) return no(3, -1);
        rows(s);
        return bestRow.get(i);
    }

    int rowSum(int s) {
        if (!barman(s)) return no(1, -1);
        if (queue().size() > 7) return no(3, -1);
        rows(s);
        return bestSum;
    }

    /** Takes away, again and again, one whom nobody left comes ahead of. */
    private boolean orderly(List<int[]> pairs) {
        int left = (1 << start.men.size()) - 1;
        for (boolean gone = true; gone; ) {
            gone = false;
            for (int p = 0; p < start.men.size(); p++) {
                boolean first = (left >> p & 1) == 1;
                for (int[] pair : pairs) if (pair[1] == p && (left >> pair[0] & 1) == 1) first = false;
                if (first) {
                    left &= ~(1 << p);
                    gone = true;
                }
            }
        }
        return left == 0;
    }

    private List<int[]> without(int liars) {
        List<int[]> pairs = new ArrayList<>();
        for (int[] s : says) if ((liars >> s[0] & 1) == 0) pairs.add(new int[] {s[1], s[2]});
        return pairs;
    }

    int liars() {
        if (!open()) return no(1, -1);
        for (int size = 0; ; size++) {
            for (int set = 0; set < 1 << start.men.size(); set++) {
                if (Integer.bitCount(set) == size && orderly(without(set))) return set;
            }
        }
    }

    int surely(int p, int q) {
        if (!man(p) || !man(q) || p == q) return no(1, -1);
        List<int[]> pairs = without(liars());
        pairs.add(new int[] {q, p});
        return orderly(pairs) ? 0 : 1;
    }

    int so() {
        if (!open()) return no(1, -1);
        int n = 0;
        for (int[] s : says) if (firstCame(start, s[1], s[2])) n++;
        return n;
    }

    private void act() {
        undo.add(world.copy());
        if (undo.size() > 12) undo.remove(0);
    }

    int pass(int n) {
        if (!open()) return no(1, -1);
        if (n < 1 || n > 200) return no(2, -1);
        if (world.now + n > bell + 1) return no(3, -1);
        act();
        run(world, world.now + n - 1);
        return world.now;
    }

    boolean moves(int p, int place) {
        if (!man(p) || place < 0 || place >= places) return no(1, 0) == 1;
        Man m = world.men.get(p);
        if (m.state != 1 || m.place == place) return no(5, 0) == 1;
        act();
        m.place = place;
        return true;
    }

    boolean lets(int p, int q) {
        trouble = mayLet(p, q);
        if (trouble != 0) return false;
        act();
        world.men.get(p).says = world.men.get(q).says + 1;
        return true;
    }

    int calls(int p) {
        if (!man(p)) return no(1, -1);
        Man m = world.men.get(p);
        if (m.state != 1) return no(5, -1);
        act();
        return m.look = m.look > 94 ? 99 : m.look + 5;
    }

    boolean leaves(int p) {
        if (!man(p)) return no(1, 0) == 1;
        if (world.men.get(p).state != 1) return no(5, 0) == 1;
        act();
        world.men.get(p).state = 5;
        return true;
    }

    boolean undo() {
        trouble = 0;
        if (undo.isEmpty()) return no(6, 0) == 1;
        world = undo.remove(undo.size() - 1);
        return true;
    }

    int image() {
        if (!open()) return no(1, -1);
        if (images.size() == 3) return no(3, -1);
        images.add(world.copy());
        return images.size() - 1;
    }

    boolean back(int i) {
        trouble = 0;
        if (i < 0 || i >= images.size()) return no(1, 0) == 1;
        world = images.get(i).copy();
        undo.clear();
        return true;
    }

    int told(int p, int what) {
        if (!man(p) || what < 0 || what > 6) return no(1, -1);
        Man m = start.men.get(p);
        return new int[] {m.manner, m.by, m.comes, m.place, m.patience, m.look, m.shelf}[what];
    }

    int wants(int p, int d) {
        return man(p) && d >= 0 && d < drinks ? start.men.get(p).wants[d] : no(1, -1);
    }

    int led(int i) {
        if (i < 0 || i >= queue().size()) throw new NoSuchElementException();
        return queue().get(i);
    }

    int size(int what) {
        int[] all = {places, bell, drinks, start.staff.size(), start.men.size(), shelves, says.size(), world.now,
            undo.size(), images.size(), tape.length()};
        return what >= 0 && what < all.length ? all[what] : -1;
    }

    int trouble() {
        return trouble;
    }
}
