import java.util.NoSuchElementException;
import java.util.Random;

/** Runs of calls by chance (always the same ones) on the class and on the plain model: each answer must be the same. */
public final class ModelTest {
    private static final String[] WORDS = {"house", "drink", "staff", "person", "shelf", "says", "long", "bell", "takes",
        "then", "costs", "row", "near", "eye", "asked", "regular", "at", "from", "to", "step", "hands", "honest", "liar",
        "polite", "comes", "patience", "look", "wants", "ready", "before", ";", ",", "0", "1", "7", "99", "100", "600",
        "999", "1000", "d", "s", "p", "da", "sa", "pa", "pb", "abcdefgh", "abcdefghi", "A", ".", "\u00e9", " ", ""};

    private final Random random;
    private final Checks checks;
    private int people;
    private int places;
    private int bell;

    private ModelTest(long seed, Checks checks) {
        random = new Random(seed);
        this.checks = checks;
    }

    private int below(int n) {
        return random.nextInt(n);
    }

    private String name(String sort, int i) {
        return sort + (char) ('a' + i);
    }

    private String text() {
        StringBuilder b = new StringBuilder();
        places = 1 + below(below(4) == 0 ? 20 : 6);
        bell = below(8) == 0 ? 1 + below(600) : 5 + below(60);
        int drinks = 1 + below(5);
        int staff = 1 + below(3);
        people = below(8) == 0 ? 1 + below(10) : 2 + below(6);
        b.append("house long ").append(places).append(" bell ").append(bell);
        for (int d = 0; d < drinks; d++) {
            int takes = 1 + below(below(5) == 0 ? 90 : 9);
            b.append(";drink ").append(name("d", d)).append(" takes ").append(takes).append(" then ")
                .append(below(takes + 1)).append(" costs ").append(below(100));
        }
        for (int s = 0; s < staff; s++) {
            int from = below(2) == 0 ? 0 : below(places);
            int to = from + below(places - from);
            b.append(";staff ").append(name("s", s)).append(' ').append(Model.RULES.get(below(5))).append(" at ")
                .append(below(places)).append(" from ").append(from).append(" to ").append(to).append(" step ")
                .append(below(3)).append(" hands ").append(1 + below(2));
        }
        for (int p = 0; p < people; p++) {
            b.append(";person ").append(name("p", p)).append(' ').append(person(drinks));
        }
        for (int p = 0; p < people; p++) {
            if (below(5) == 0) {
                b.append(";shelf ").append(name("p", p)).append(" ready ").append(below(bell + 1));
            }
        }
        for (int n = people > 1 ? below(9) : 0; n > 0 && b.length() < 960; n--) {
            int first = below(people);
            int second = (first + 1 + below(people - 1)) % people;
            b.append(";says ").append(name("p", below(people))).append(' ').append(name("p", first)).append(" before ")
                .append(name("p", second));
        }
        return b.toString();
    }

    private String person(int drinks) {
        int manner = below(4);
        StringBuilder b = new StringBuilder(Model.MANNERS.get(manner));
        if (manner == 1 || manner == 2) {
            b.append(' ').append(1 + below(below(3) == 0 ? 99 : 9));
        }
        b.append(" comes ").append(below(Math.min(bell + 1, below(3) == 0 ? bell + 1 : 12))).append(" at ")
            .append(below(places)).append(" patience ").append(below(below(3) == 0 ? 601 : 40)).append(" look ")
            .append(below(100)).append(" wants ");
        int first = below(drinks);
        int many = 1 + below(Math.min(3, drinks));
        for (int i = 0; i < many; i++) {
            b.append(i > 0 ? "," : "").append(name("d", (first + i) % drinks)).append(' ').append(1 + below(4));
        }
        return b.toString();
    }

    /** A text with something put in, taken out or changed. */
    private String spoiled(String text) {
        if (text.isEmpty()) {
            return text;
        }
        int at = below(text.length());
        switch (below(6)) {
            case 0:
                return text.substring(0, at);
            case 1:
                return text.substring(0, at) + WORDS[below(WORDS.length)] + text.substring(at);
            case 2:
                return text.substring(0, at) + text.substring(Math.min(text.length(), at + 1 + below(6)));
            case 3: {
                String[] parts = text.split(" ");
                parts[below(parts.length)] = WORDS[below(WORDS.length)];
                return String.join(" ", parts);
            }
            case 4: {
                String[] lines = text.split(";");
                if (lines.length == 0) {
                    return text;
                }
                String moved = lines[below(lines.length)];
                int to = below(lines.length);
                lines[to] = moved + ";" + lines[to];
                return String.join(";", lines);
            }
            default: {
                String[] lines = text.split(";");
                if (lines.length < 2) {
                    return text;
                }
                int a = below(lines.length);
                int b = below(lines.length);
                String swap = lines[a];
                lines[a] = lines[b];
                lines[b] = swap;
                return String.join(";", lines);
            }
        }
    }

    private void feedBoth(NextAtBar x, Model m, String text) {
        int[] n = Checks.numbers(text);
        for (int i = 0; i < n.length; i += 5) {
            checks.due("feed", x.feed(n[i], n[i + 1], n[i + 2], n[i + 3], n[i + 4]),
                m.feed(n[i], n[i + 1], n[i + 2], n[i + 3], n[i + 4]));
        }
    }

    private void houseBoth(NextAtBar x, Model m, String text) {
        feedBoth(x, m, text);
        int n = Math.min(text.length(), 1000);
        if (below(20) == 0) {
            n += below(30) - 15;
        }
        checks.due("house " + text, x.house(n), m.house(n));
        checks.due("where " + text, x.where(), m.where());
        checks.due("fault " + text, x.fault(), m.fault());
        checks.due("trouble " + text, x.trouble(), m.trouble());
        for (int what = -1; what <= 11; what++) {
            checks.due("size " + what + " " + text, x.size(what), m.size(what));
        }
    }

    private int p() {
        return below(12) == 0 ? below(14) - 2 : below(people);
    }

    private int index(int n) {
        return below(12) == 0 ? below(n + 4) - 2 : below(n);
    }

    private void call(NextAtBar x, Model m, int kind, String run) {
        int p = p();
        int q = p();
        int s = index(3);
        int w = index(6);
        int set = below(10) == 0 ? below(3000) - 500 : below(1 << people);
        boolean flag = below(2) == 0;
        String call = run + " call " + kind + " p " + p + " q " + q + " s " + s + " w " + w + " set " + set + " flag " + flag;
        switch (kind) {
            case 0: checks.due(call, x.person(p, w), m.person(p, w)); break;
            case 1: checks.due(call, x.staff(s, w % 4), m.staff(s, w % 4)); break;
            case 2: checks.due(call, x.elbows(q), m.elbows(q)); break;
            case 3: checks.due(call, x.waiting(), m.waiting()); break;
            case 4: checks.due(call, x.next(s), m.next(s)); break;
            case 5: checks.due(call, x.time(s, p), m.time(s, p)); break;
            case 6: checks.due(call, x.costs(p), m.costs(p)); break;
            case 7: checks.due(call, x.fate(p), m.fate(p)); break;
            case 8: checks.due(call, x.waits(p), m.waits(p)); break;
            case 9: checks.due(call, x.whom(p), m.whom(p)); break;
            case 10: checks.due(call, x.has(p), m.has(p)); break;
            case 11: checks.due(call, x.passed(p), m.passed(p)); break;
            case 12: checks.due(call, x.pushed(p), m.pushed(p)); break;
            case 13: checks.due(call, x.sum(w), m.sum(w)); break;
            case 14: checks.due(call, x.served(q), m.served(q)); break;
            case 15: checks.due(call, x.by(s + 1, flag, w), m.by(s + 1, flag, w)); break;
            case 16: checks.due(call, x.bestRule(flag), m.bestRule(flag)); break;
            case 17: checks.due(call, x.hand(), m.hand()); break;
            case 18: checks.due(call, x.beforehand(p), m.beforehand(p)); break;
            case 19: checks.due(call, x.bestPlace(p), m.bestPlace(p)); break;
            case 20: checks.due(call, x.bestManner(p), m.bestManner(p)); break;
            case 21: checks.due(call, x.cut(), m.cut()); break;
            case 22: checks.due(call, x.cutWaits(), m.cutWaits()); break;
            case 23: checks.due(call, x.leastLook(p), m.leastLook(p)); break;
            case 24: checks.due(call, x.letCosts(p, q), m.letCosts(p, q)); break;
            case 25: { int t = below(5) == 0 ? below(1000) : below(60); checks.due(call + " t " + t, x.bell(t, w), m.bell(t, w)); break; }
            case 26: { int t = below(70) - 1; checks.due(call + " t " + t, x.waitingAt(t), m.waitingAt(t)); break; }
            case 27: checks.due(call, x.honesty(set, flag), m.honesty(set, flag)); break;
            case 28: checks.due(call, x.rest(set), m.rest(set)); break;
            case 29: if (below(6) == 0) checks.due(call, x.rests(), m.rests()); break;
            case 30: checks.due(call, x.row(s, q), m.row(s, q)); break;
            case 31: checks.due(call, x.rowSum(s), m.rowSum(s)); break;
            case 32: checks.due(call, x.liars(), m.liars()); break;
            case 33: checks.due(call, x.surely(p, q), m.surely(p, q)); break;
            case 34: checks.due(call, x.so(), m.so()); break;
            case 35: case 36: case 37: { int n = below(10) == 0 ? below(210) - 2 : 1 + below(8); checks.due(call + " n " + n, x.pass(n), m.pass(n)); break; }
            case 38: checks.due(call, x.moves(p, q), m.moves(p, q)); break;
            case 39: checks.due(call, x.lets(p, q), m.lets(p, q)); break;
            case 40: checks.due(call, x.calls(p), m.calls(p)); break;
            case 41: checks.due(call, x.leaves(p), m.leaves(p)); break;
            case 42: checks.due(call, x.undo(), m.undo()); break;
            case 43: checks.due(call, x.image(), m.image()); break;
            case 44: if (below(4) == 0) checks.due(call, x.back(s), m.back(s)); break;
            case 45: checks.due(call, x.told(p, w), m.told(p, w)); break;
            case 46: checks.due(call, x.wants(p, w), m.wants(p, w)); break;
            case 47: checks.due(call, led(x, null, q), led(null, m, q)); break;
            case 48: { int what = index(11); checks.due(call + " what " + what, x.size(what), m.size(what)); break; }
            case 49: checks.due(call, x.told(p, 6), m.told(p, 6)); break;
            default: checks.due(call, x.where(), m.where()); break;
        }
        checks.due(call + " trouble", x.trouble(), m.trouble());
    }

    private static int led(NextAtBar x, Model m, int i) {
        try {
            return x != null ? x.led(i) : m.led(i);
        } catch (NoSuchElementException e) {
            return -77;
        }
    }

    private void play(int run) {
        NextAtBar x = new NextAtBar();
        Model m = new Model();
        people = 3;
        for (int kind = 0; kind <= 50; kind++) {
            if (run % 10 == 0) {
                call(x, m, kind, "no house");
            }
        }
        for (int round = 0; round < 4; round++) {
            String text = text();
            houseBoth(x, m, text);
            for (int i = 0; i < 70 && checks.wrong() == 0; i++) {
                call(x, m, below(51), "run " + run + " after " + text);
            }
        }
    }

    private void spoil() {
        NextAtBar x = new NextAtBar();
        Model m = new Model();
        for (int i = 0; i < 12; i++) {
            String text = text();
            for (int k = 1 + below(3); k > 0; k--) {
                text = spoiled(text);
            }
            houseBoth(x, m, text);
        }
    }

    public static void main(String[] args) {
        int runs = args.length > 0 ? Integer.parseInt(args[0]) : 1500;
        int from = args.length > 1 ? Integer.parseInt(args[1]) : 0;
        Checks checks = new Checks();
        for (int run = from; run < from + runs; run++) {
            ModelTest test = new ModelTest(1000L + run, checks);
            test.play(run);
            test.spoil();
        }
        checks.end();
    }
}
