/** Promises 41 to 53: each sentence that names an edge has a test of its own. */
public final class ActsEdgesTest extends Bars {
    private static final Checks C = new Checks();

    private static final String ROW = staff("s", "row", 0, 0, 0);
    private static final int AWAY = 0;
    private static final int FREE = 1;
    private static final int BEGUN = 2;
    private static final int DONE = 3;
    private static final int GONE = 4;
    private static final int LEFT = 5;
    private static final int SHELF = 6;
    private static final int OTHER = 7;

    /** At NOW 6: one each of all that people can be, and another one who waits. */
    private static NextAtBar allSorts() {
        NextAtBar x = Checks.bar(plain(3, 40, 4, 4, ROW) + man("a", "honest", 9, 1, 600, 0) + man("b", "honest", 1, 1, 600, 0) + man("c", "honest", 1, 0, 600, 0)
            + man("d", "honest", 0, 0, 600, 0) + man("e", "honest", 0, 1, 2, 0) + man("f", "honest", 0, 2, 600, 0) + man("g", "honest", 0, 1, 600, 0)
            + man("h", "honest", 3, 1, 600, 0) + ";shelf g ready 2");
        x.pass(5);
        x.leaves(LEFT);
        x.pass(1);
        C.answers("all sorts", new int[] {x.person(AWAY, 0), x.person(FREE, 0), x.person(BEGUN, 0), x.person(DONE, 0), x.person(GONE, 0), x.person(LEFT, 0),
            x.person(SHELF, 0), x.person(OTHER, 0)}, 0, 1, 2, 3, 4, 5, 3, 1);
        return x;
    }

    private static final int[] NOT_WAITING = {AWAY, BEGUN, DONE, GONE, LEFT, SHELF};

    /** All that can be seen of an object, but TROUBLE and THE TAPE. */
    private static String look(NextAtBar x) {
        StringBuilder b = new StringBuilder();
        for (int what = 0; what <= 9; what++) {
            b.append(x.size(what)).append(' ');
        }
        for (int p = 0; p < x.size(4); p++) {
            b.append('\n');
            for (int what = 0; what <= 5; what++) {
                b.append(x.person(p, what)).append(' ');
            }
            b.append(x.passed(p)).append(' ').append(x.pushed(p)).append(' ').append(x.fate(p)).append(' ').append(x.has(p)).append(' ').append(x.told(p, 3));
        }
        for (int s = 0; s < x.size(3); s++) {
            b.append('\n').append(x.staff(s, 0)).append(' ').append(x.staff(s, 1)).append(' ').append(x.staff(s, 2)).append(' ').append(x.next(s)).append(' ')
                .append(x.time(s, 0));
        }
        return b.toString();
    }

    private static void same(String what, String got, String want) {
        if (!got.equals(want)) {
            System.out.println(got + "\n-- due is\n" + want);
        }
        C.due(what + " as it was", got.equals(want), true);
    }

    // ---- pass

    private static void pass() {
        String text = plain(2, 40, 5, 5, ROW) + man("a", "honest", 40, 0, 600, 0) + man("b", "honest", 0, 1, 600, 0);
        C.sentence("pass: so many SECONDS (1 .. 200): NOW; 2");
        NextAtBar x = Checks.bar(text);
        C.answers("too few", new int[] {x.pass(0), x.trouble(), x.pass(-1), x.trouble(), x.pass(Integer.MIN_VALUE), x.trouble(), x.size(7), x.size(8)},
            NONE, 2, NONE, 2, NONE, 2, 0, 0);
        C.answers("too many", new int[] {x.pass(201), x.trouble(), x.pass(Integer.MAX_VALUE), x.trouble(), x.size(7), x.size(8)}, NONE, 2, NONE, 2, 0, 0);
        C.answers("one", new int[] {x.pass(1), x.trouble(), x.size(7), x.size(8), x.person(1, 0)}, 1, 0, 1, 1, 1);
        NextAtBar longer = Checks.bar("house long 1 bell 600;drink x takes 5 then 5 costs 1" + ROW + man("a", "honest", 199, 0, 600, 0) + man("b", "honest", 200, 0, 600, 0));
        C.answers("two hundred", new int[] {longer.pass(200), longer.trouble(), longer.person(0, 0), longer.person(1, 0)}, 200, 0, 2, 0);
        C.answers("six hundred", new int[] {longer.pass(200), longer.pass(200), longer.size(7), longer.trouble()}, 400, 600, 600, 0);
        C.answers("the bell's", new int[] {longer.pass(2), longer.trouble(), longer.pass(1), longer.trouble(), longer.pass(1), longer.trouble()},
            NONE, 3, 601, 0, NONE, 3);
        C.sentence("pass: 3 (beyond the bell's)");
        NextAtBar y = Checks.bar(text);
        C.answers("one too many", new int[] {y.pass(42), y.trouble(), y.pass(200), y.trouble(), y.size(7), y.size(8)}, NONE, 3, NONE, 3, 0, 0);
        C.answers("the bell's, too", new int[] {y.pass(41), y.trouble(), y.size(7), y.person(0, 0), y.person(0, 4)}, 41, 0, 41, 2, 40);
        C.answers("no more", new int[] {y.pass(1), y.trouble(), y.pass(0), y.trouble(), y.pass(201), y.trouble()}, NONE, 3, NONE, 2, NONE, 2);
        NextAtBar z = Checks.bar(text);
        z.pass(40);
        C.answers("at the bell", new int[] {z.pass(2), z.trouble(), z.person(0, 0), z.pass(1), z.trouble(), z.person(0, 0)}, NONE, 3, 0, 41, 0, 2);
        NextAtBar shortest = Checks.bar("house long 1 bell 1;drink x takes 5 then 5 costs 1" + ROW + man("a", "honest", 1, 0, 600, 0));
        C.answers("bell 1", new int[] {shortest.pass(3), shortest.trouble(), shortest.pass(2), shortest.trouble(), shortest.person(0, 4)}, NONE, 3, 2, 0, 1);
        C.sentence("pass: 1 (no HOUSE), ahead of 2 and 3");
        NextAtBar none = new NextAtBar();
        C.answers("no house", new int[] {none.pass(1), none.trouble(), none.pass(0), none.trouble(), none.pass(201), none.trouble(), none.size(7)},
            NONE, 1, NONE, 1, NONE, 1, 0);
        C.sentence("pass: seconds at once are as they are one by one");
        NextAtBar slow = Checks.bar(EVENING);
        NextAtBar fast = Checks.bar(EVENING);
        for (int i = 0; i < 12; i++) {
            slow.pass(1);
        }
        fast.pass(12);
        same("twelve", look(fast).replaceFirst("12 1 0", "12 12 0"), look(slow));
    }

    // ---- move, let, call, leave

    private static void moves() {
        C.sentence("moves: 1 (person, PLACE)");
        NextAtBar x = allSorts();
        String before = look(x);
        int[][] wrong = {{-1, 0}, {8, 0}, {FREE, -1}, {FREE, 3}, {AWAY, 3}, {Integer.MIN_VALUE, 0}, {Integer.MAX_VALUE, 0}, {FREE, Integer.MAX_VALUE}, {FREE, Integer.MIN_VALUE}};
        for (int[] w : wrong) {
            C.due("moves " + w[0] + " " + w[1], x.moves(w[0], w[1]), false);
            C.due("trouble of it", x.trouble(), 1);
        }
        C.sentence("moves: 5 (he isn't WAITING, he is there)");
        for (int p : NOT_WAITING) {
            C.due("moves " + p, x.moves(p, p == LEFT ? 0 : 2), false);
            C.due("trouble of him", x.trouble(), 5);
        }
        C.due("he is there", x.moves(FREE, 1), false);
        C.due("trouble of that", x.trouble(), 5);
        same("all", look(x), before);
        C.sentence("moves: MOVE one WAITING: true");
        C.due("to the first", x.moves(FREE, 0), true);
        C.answers("there", new int[] {x.trouble(), x.person(FREE, 1), x.told(FREE, 3), x.elbows(0), x.elbows(1), x.size(8)}, 0, 0, 1, 1, 1, 4);
        C.due("there already", x.moves(FREE, 0), false);
        C.due("to the last", x.moves(FREE, 2), true);
        C.answers("at the last", new int[] {x.person(FREE, 1), x.elbows(2), x.size(8)}, 2, 1, 5);
        C.due("and back", x.moves(FREE, 1), true);
        C.due("another one", x.moves(OTHER, 0), true);
        C.answers("who is served there", new int[] {x.fate(OTHER), x.fate(FREE), x.has(OTHER)}, 0, 3, 12);
    }

    private static void lets() {
        // b says 1 (honest, came at 1), h 3.
        C.sentence("lets: 1 (unlike)");
        NextAtBar x = allSorts();
        String before = look(x);
        int[][] wrong = {{FREE, FREE}, {-1, FREE}, {FREE, -1}, {8, FREE}, {FREE, 8}, {-1, -1}, {8, 8}, {AWAY, AWAY}, {Integer.MIN_VALUE, FREE}, {FREE, Integer.MAX_VALUE}};
        for (int[] w : wrong) {
            C.due("lets " + w[0] + " " + w[1], x.lets(w[0], w[1]), false);
            C.due("trouble of it", x.trouble(), 1);
        }
        C.sentence("lets: 5 (one isn't WAITING)");
        for (int p : NOT_WAITING) {
            C.due("lets " + p, x.lets(p, FREE), false);
            C.due("trouble of him", x.trouble(), 5);
            C.due("lets him " + p, x.lets(FREE, p), false);
            C.due("trouble of both", x.trouble(), 5);
        }
        C.sentence("lets: 5 (he SAYS more already)");
        C.due("3 is more than 1", x.lets(OTHER, FREE), false);
        C.due("trouble of it", x.trouble(), 5);
        same("all", look(x), before);
        C.sentence("lets: SAYS one second more than that one does");
        C.due("1 to 3", x.lets(FREE, OTHER), true);
        C.answers("says 4", new int[] {x.trouble(), x.person(FREE, 3), x.person(OTHER, 3), x.told(FREE, 2), x.size(8)}, 0, 4, 3, 1, 4);
        C.due("4 is more than 3", x.lets(FREE, OTHER), false);
        C.due("trouble of that", x.trouble(), 5);
        C.due("the other way", x.lets(OTHER, FREE), true);
        C.answers("says 5", new int[] {x.person(FREE, 3), x.person(OTHER, 3), x.size(8)}, 4, 5, 5);
        C.due("and back", x.lets(FREE, OTHER), true);
        C.answers("says 6", new int[] {x.person(FREE, 3), x.person(OTHER, 3)}, 6, 5);
        C.sentence("lets: he SAYS as much");
        NextAtBar like = Checks.bar(plain(2, 40, 4, 4, ROW) + man("a", "liar 2", 2, 1, 600, 0) + man("b", "honest", 0, 1, 600, 0) + man("c", "liar 99", 1, 1, 600, 0)
            + man("d", "liar 98", 1, 1, 600, 0));
        like.pass(3);
        C.due("0 and 0", like.lets(0, 1), true);
        C.answers("says 1", new int[] {like.person(0, 3), like.person(1, 3)}, 1, 0);
        C.due("-98 and -97", like.lets(2, 3), true);
        C.answers("says -96", new int[] {like.person(2, 3), like.person(3, 3)}, -96, -97);
        C.due("-97 and 1", like.lets(3, 0), true);
        C.answers("says 2", new int[] {like.person(3, 3), like.person(0, 3)}, 2, 1);
    }

    private static void calls() {
        C.sentence("calls: LOOK is 5 more, 99 at most");
        NextAtBar x = Checks.bar(plain(2, 40, 4, 4, ROW) + man("a", "honest", 0, 1, 600, 0) + man("b", "honest", 0, 1, 600, 93) + man("c", "honest", 0, 1, 600, 94)
            + man("d", "honest", 0, 1, 600, 95) + man("e", "honest", 0, 1, 600, 98) + man("f", "honest", 0, 1, 600, 99));
        x.pass(1);
        C.answers("look", new int[] {x.calls(0), x.trouble(), x.calls(1), x.calls(2), x.calls(3), x.calls(4), x.calls(5), x.trouble(), x.size(8)}, 5, 0, 98, 99, 99, 99, 99, 0, 7);
        C.answers("again", new int[] {x.calls(0), x.calls(1), x.calls(2), x.person(0, 2), x.person(1, 2), x.told(0, 5), x.told(1, 5), x.size(8)}, 10, 99, 99, 10, 99, 0, 93, 10);
        C.sentence("calls: NONE: 1; 5 (he isn't WAITING)");
        NextAtBar y = allSorts();
        String before = look(y);
        for (int p : new int[] {-1, 8, Integer.MIN_VALUE, Integer.MAX_VALUE}) {
            C.answers("calls " + p, new int[] {y.calls(p), y.trouble()}, NONE, 1);
        }
        for (int p : NOT_WAITING) {
            C.answers("calls " + p, new int[] {y.calls(p), y.trouble()}, NONE, 5);
        }
        same("all", look(y), before);
        C.answers("the last", new int[] {y.calls(OTHER), y.trouble()}, 5, 0);
    }

    private static void leaves() {
        C.sentence("leaves: false: 1; 5 (he isn't WAITING)");
        NextAtBar x = allSorts();
        String before = look(x);
        for (int p : new int[] {-1, 8, Integer.MIN_VALUE, Integer.MAX_VALUE}) {
            C.due("leaves " + p, x.leaves(p), false);
            C.due("trouble of it", x.trouble(), 1);
        }
        for (int p : NOT_WAITING) {
            C.due("leaves " + p, x.leaves(p), false);
            C.due("trouble of him", x.trouble(), 5);
        }
        same("all", look(x), before);
        C.sentence("leaves: LEAVE: true; he is WAITING no more");
        C.due("leaves", x.leaves(OTHER), true);
        C.answers("left", new int[] {x.trouble(), x.person(OTHER, 0), x.fate(OTHER), x.waits(OTHER), x.has(OTHER), x.waiting(), x.elbows(1), x.led(0)}, 0, 5, 4, -2, -2, 1, 1, FREE);
        C.due("the last", x.leaves(FREE), true);
        C.answers("nobody waits", new int[] {x.waiting(), x.next(0), x.trouble()}, 0, -2, 0);
        C.due("nobody led", throwsNone(x, 0), true);
    }

    // ---- undo, images

    private static void undoEach() {
        C.sentence("undo: the latest ACT: PASS, MOVE, LET, CALL, LEAVE");
        NextAtBar x = allSorts();
        String[] looks = new String[6];
        looks[0] = look(x);
        C.due("call", x.calls(FREE), 5);
        looks[1] = look(x);
        C.due("let", x.lets(FREE, OTHER), true);
        looks[2] = look(x);
        C.due("move", x.moves(OTHER, 0), true);
        looks[3] = look(x);
        C.due("pass", x.pass(7), 13);
        looks[4] = look(x);
        C.due("leave", x.leaves(FREE), true);
        for (int i = 4; i >= 0; i--) {
            C.due("undo", x.undo(), true);
            C.due("trouble", x.trouble(), 0);
            same("before act " + i, look(x), looks[i]);
        }
        C.due("the earlier ones", x.undo() && x.undo() && x.undo(), true);
        C.answers("at first", new int[] {x.size(7), x.size(8), x.person(DONE, 0), x.waiting()}, 0, 0, 0, 0);
        C.sentence("undo: false: 6");
        C.due("none left", x.undo(), false);
        C.answers("trouble", new int[] {x.trouble(), x.size(7), x.size(8)}, 6, 0, 0);
        NextAtBar none = new NextAtBar();
        C.due("no house", none.undo(), false);
        C.due("no house's trouble", none.trouble(), 6);
    }

    private static void twelveAreKept() {
        C.sentence("undo: 12 are kept");
        for (int acts = 11; acts <= 26; acts++) {
            NextAtBar x = Checks.bar(EVENING);
            for (int i = 0; i < acts; i++) {
                x.pass(1);
                C.due("kept", x.size(8), Math.min(12, i + 1));
            }
            for (int i = 0; i < Math.min(12, acts); i++) {
                C.due("undo", x.undo(), true);
                C.answers("one back", new int[] {x.size(7), x.size(8)}, acts - i - 1, Math.min(12, acts) - i - 1);
            }
            C.due("no more", x.undo(), false);
            C.answers("stays", new int[] {x.trouble(), x.size(7), x.size(8)}, 6, Math.max(0, acts - 12), 0);
        }
        C.sentence("undo: acts behind an undo are kept like others");
        NextAtBar x = Checks.bar(EVENING);
        for (int i = 0; i < 13; i++) {
            x.pass(1);
        }
        C.due("three back", x.undo() && x.undo() && x.undo(), true);
        for (int i = 0; i < 5; i++) {
            x.pass(2);
        }
        C.answers("on again", new int[] {x.size(7), x.size(8)}, 20, 12);
        for (int i = 0; i < 5; i++) {
            x.undo();
            C.due("by two", x.size(7), 18 - 2 * i);
        }
        for (int i = 0; i < 7; i++) {
            x.undo();
            C.due("by one", x.size(7), 9 - i);
        }
        C.due("the end", x.undo(), false);
    }

    private static void refusedIsNoAct() {
        C.sentence("undo: what was refused, or is no ACT, can't be undone");
        NextAtBar x = allSorts();
        x.pass(0);
        x.pass(200);
        x.moves(FREE, 1);
        x.moves(FREE, 9);
        x.lets(OTHER, FREE);
        x.calls(AWAY);
        x.leaves(GONE);
        x.image();
        x.image();
        x.back(5);
        x.hand();
        x.letCosts(FREE, OTHER);
        C.answers("three as before", new int[] {x.size(8), x.size(9)}, 3, 2);
        C.due("undo", x.undo(), true);
        C.answers("the pass", new int[] {x.size(7), x.size(8), x.size(9)}, 5, 2, 2);
    }

    private static void images() {
        C.sentence("image: its number; up to 3; NONE: 3");
        NextAtBar x = allSorts();
        String first = look(x).replaceFirst("6 3 0", "6 0 3");
        C.answers("first", new int[] {x.image(), x.trouble(), x.size(9), x.size(8)}, 0, 0, 1, 3);
        x.pass(4);
        String second = look(x).replaceFirst("10 4 1", "10 0 3");
        C.answers("second", new int[] {x.image(), x.trouble(), x.size(9)}, 1, 0, 2);
        x.moves(OTHER, 0);
        x.pass(5);
        String third = look(x).replaceFirst("15 6 2", "15 0 3");
        C.answers("third", new int[] {x.image(), x.trouble(), x.size(9)}, 2, 0, 3);
        C.answers("fourth", new int[] {x.image(), x.trouble(), x.size(9), x.image(), x.trouble()}, NONE, 3, 3, NONE, 3);
        C.sentence("back: false: 1");
        for (int i : new int[] {-1, 3, 4, Integer.MIN_VALUE, Integer.MAX_VALUE}) {
            C.due("back " + i, x.back(i), false);
            C.answers("trouble of it", new int[] {x.trouble(), x.size(7), x.size(8), x.size(9)}, 1, 15, 6, 3);
        }
        C.sentence("back: all is as by an IMAGE (all IMAGES stay); gone back to one, nothing can be undone");
        for (int round = 0; round < 2; round++) {
            C.due("back to the first", x.back(0), true);
            C.due("trouble", x.trouble(), 0);
            same("first", look(x), first);
            C.due("nothing to undo", x.undo(), false);
            C.due("trouble of undo", x.trouble(), 6);
            C.due("back to the third", x.back(2), true);
            same("third", look(x), third);
            x.pass(3);
            C.due("an act behind it can be", x.undo(), true);
            same("third again", look(x), third);
            C.due("back to the second", x.back(1), true);
            same("second", look(x), second);
            x.leaves(FREE);
            x.pass(2);
        }
        C.answers("no room still", new int[] {x.image(), x.trouble(), x.size(9)}, NONE, 3, 3);
    }

    private static void imagesAndUndo() {
        C.sentence("images: an UNDO leaves them alone, and so does a refused back");
        NextAtBar x = Checks.bar(EVENING);
        x.pass(4);
        x.calls(1);
        C.due("image", x.image(), 0);
        C.due("undo", x.undo() && x.undo(), true);
        C.answers("as at first", new int[] {x.size(7), x.size(9)}, 0, 1);
        C.due("forwards by it", x.back(0), true);
        C.answers("as then", new int[] {x.size(7), x.person(1, 2), x.size(8), x.size(9)}, 4, 25, 0, 1);
        C.sentence("images: NONE: 1 (no HOUSE), none of another house");
        NextAtBar none = new NextAtBar();
        C.answers("no house", new int[] {none.image(), none.trouble(), none.size(9)}, NONE, 1, 0);
        C.due("no image", none.back(0), false);
        C.due("no image's trouble", none.trouble(), 1);
        Checks.house(x, START);
        C.due("of another house", x.back(0), false);
        C.due("its trouble", x.trouble(), 1);
        NextAtBar two = Checks.bar(EVENING);
        two.image();
        C.due("one beyond", two.back(1), false);
    }

    // ---- what is told

    private static void told() {
        C.sentence("told: 0 MANNER .. 6 when his shelf is ready (-2); NONE: 1");
        NextAtBar x = Checks.bar(EVENING);
        int[][] want = {{0, 0, 0, 2, 50, 10, -2}, {1, 9, 2, 0, 50, 20, -2}, {2, 3, 1, 4, 50, 30, -2}, {3, 0, 3, 2, 6, 40, -2}, {0, 0, 2, 1, 50, 98, 9}};
        for (int round = 0; round < 2; round++) {
            for (int p = 0; p < 5; p++) {
                for (int what = 0; what <= 6; what++) {
                    C.answers("told " + p + " " + what, new int[] {x.told(p, what), x.trouble()}, want[p][what], 0);
                }
            }
            // As told, whatever has been done since.
            x.pass(4);
            x.moves(1, 3);
            x.calls(2);
            x.leaves(4);
        }
        C.answers("none such", new int[] {x.told(-1, 0), x.trouble(), x.told(5, 0), x.trouble(), x.told(0, -1), x.trouble(), x.told(0, 7), x.trouble(),
            x.told(Integer.MAX_VALUE, 0), x.told(0, Integer.MIN_VALUE)}, NONE, 1, NONE, 1, NONE, 1, NONE, 1, NONE, NONE);
        C.sentence("wants: how many glasses of a DRINK; NONE: 1");
        C.answers("wants", new int[] {x.wants(0, 0), x.wants(0, 1), x.wants(1, 0), x.wants(1, 1), x.wants(2, 0), x.wants(2, 1), x.wants(4, 0), x.trouble()}, 2, 0, 0, 1, 1, 2, 3, 0);
        C.answers("none wanted", new int[] {x.wants(-1, 0), x.trouble(), x.wants(5, 0), x.trouble(), x.wants(0, -1), x.trouble(), x.wants(0, 2), x.trouble(),
            x.wants(0, Integer.MAX_VALUE), x.wants(Integer.MIN_VALUE, 0)}, NONE, 1, NONE, 1, NONE, 1, NONE, 1, NONE, NONE);
        NextAtBar none = new NextAtBar();
        C.answers("no house", new int[] {none.told(0, 0), none.trouble(), none.wants(0, 0), none.trouble()}, NONE, 1, NONE, 1);
    }

    private static void led() {
        C.sentence("led: the i-th person WAITING, by numbers; NoSuchElementException if there is none such");
        NextAtBar x = Checks.bar(EVENING);
        C.due("nobody there", throwsNone(x, 0) && throwsNone(x, -1) && throwsNone(x, 5), true);
        x.pass(4);
        C.answers("four", new int[] {x.led(0), x.led(1), x.led(2), x.led(3)}, 1, 2, 3, 4);
        C.due("four alone", throwsNone(x, 4) && throwsNone(x, -1) && throwsNone(x, Integer.MAX_VALUE) && throwsNone(x, Integer.MIN_VALUE), true);
        x.leaves(2);
        C.answers("three", new int[] {x.led(0), x.led(1), x.led(2)}, 1, 3, 4);
        C.due("three alone", throwsNone(x, 3), true);
        C.due("no house", throwsNone(new NextAtBar(), 0) && throwsNone(new NextAtBar(), -1), true);
        NextAtBar ten = Checks.bar(plain(2, 9, 1, 1, ROW) + times(10, ";person p", " honest comes 0 at 1 patience 600 look 0 wants x 1"));
        ten.pass(1);
        C.answers("ten", new int[] {ten.led(0), ten.led(9)}, 0, 9);
        C.due("ten alone", throwsNone(ten, 10), true);
    }

    private static void size() {
        C.sentence("size: NONE for others; 0 for what there isn't");
        NextAtBar none = new NextAtBar();
        for (int what = 0; what <= 10; what++) {
            C.due("nothing " + what, none.size(what), 0);
        }
        for (int what : new int[] {-1, 11, 12, Integer.MIN_VALUE, Integer.MAX_VALUE}) {
            C.answers("others " + what, new int[] {none.size(what), none.trouble(), Checks.bar(START).size(what)}, NONE, 0, NONE);
        }
        NextAtBar bare = Checks.bar(START);
        C.answers("no shelves, no tellings", new int[] {bare.size(5), bare.size(6), bare.size(7), bare.size(8), bare.size(9), bare.size(10)}, 0, 0, 0, 0, 0, 0);
        NextAtBar x = Checks.bar(EVENING);
        x.pass(4);
        x.pass(2);
        x.image();
        Checks.feed(x, "   ");
        C.answers("each", new int[] {x.size(0), x.size(1), x.size(2), x.size(3), x.size(4), x.size(5), x.size(6), x.size(7), x.size(8), x.size(9), x.size(10)},
            5, 40, 2, 1, 5, 1, 3, 6, 2, 1, 20);
    }

    private static void trouble() {
        C.sentence("TROUBLE: 0 it wasn't .. 6 there is none");
        NextAtBar x = new NextAtBar();
        C.due("at first", x.trouble(), 0);
        x.undo();
        C.answers("there is none", new int[] {x.trouble(), x.trouble()}, 6, 6);
        x.waiting();
        C.due("none such", x.trouble(), 1);
        x.house(1);
        C.due("a number", x.trouble(), 2);
        x.house(0);
        C.due("a fault", x.trouble(), 4);
        Checks.house(x, EVENING);
        C.due("none", x.trouble(), 0);
        x.pass(42);
        C.due("no room", x.trouble(), 3);
        x.leaves(0);
        C.due("not so", x.trouble(), 5);
        C.sentence("TROUBLE: of the latest call that may be refused (those of which a number is told here)");
        x.feed(0, 0, 0, 0, 0);
        C.due("feed", x.trouble(), 5);
        for (int i = 0; i < 50; i++) {
            x.feed(0, 0, 0, 0, 0);
        }
        C.answers("feed, refused", new int[] {x.feed(0, 0, 0, 0, 0), x.trouble()}, NONE, 5);
        C.answers("fault", new int[] {x.fault(), x.trouble()}, 0, 5);
        C.answers("where", new int[] {x.where(), x.trouble()}, NONE, 5);
        C.answers("size", new int[] {x.size(0), x.trouble(), x.size(99), x.trouble()}, 5, 5, NONE, 5);
        C.due("led, none such", throwsNone(x, 0), true);
        C.due("led", x.trouble(), 5);
        x.pass(4);
        C.due("pass", x.trouble(), 0);
        C.answers("led", new int[] {x.led(0), x.trouble()}, 1, 0);
    }

    private static void noHouse() {
        C.sentence("acts: 1 without a HOUSE");
        NextAtBar x = new NextAtBar();
        x.undo();
        C.due("moves", x.moves(0, 0), false);
        C.due("moves' trouble", x.trouble(), 1);
        x.undo();
        C.due("lets", x.lets(0, 1), false);
        C.due("lets' trouble", x.trouble(), 1);
        x.undo();
        C.answers("calls", new int[] {x.calls(0), x.trouble()}, NONE, 1);
        x.undo();
        C.due("leaves", x.leaves(0), false);
        C.due("leaves' trouble", x.trouble(), 1);
        C.answers("nothing has come about", new int[] {x.size(7), x.size(8), x.size(9), x.image(), x.trouble()}, 0, 0, 0, NONE, 1);
    }

    public static void main(String[] args) {
        pass();
        moves();
        lets();
        calls();
        leaves();
        undoEach();
        twelveAreKept();
        refusedIsNoAct();
        images();
        imagesAndUndo();
        told();
        led();
        size();
        trouble();
        noHouse();
        C.end();
    }
}
