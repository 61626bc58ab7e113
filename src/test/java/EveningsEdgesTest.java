/** Part III of the document and promises 21 to 40: each sentence that names an edge has a test of its own. */
public final class EveningsEdgesTest extends Bars {
    private static final Checks C = new Checks();

    private static final String ROW = staff("s", "row", 0, 0, 0);
    private static final String ASKED = staff("s", "asked", 0, 0, 0);
    private static final String Z = man("z", "honest", 0, 0, 600, 0);

    /** So many people who come at once at place 0, wait as long as need be, and want one x each. */
    private static String crowd(int n, int comes) {
        return times(n, ";person p", " honest comes " + comes + " at 0 patience 600 look 0 wants x 1");
    }

    // ---- by a rule

    private static void byARule() {
        C.sentence("by: none such: RULE 0 .. 4, 0 .. 5");
        // Only by eye is b begun with ahead of a; all the other rules keep to who came first.
        NextAtBar x = Checks.bar(plain(1, 20, 5, 5, ROW) + man("a", "honest", 0, 0, 600, 1) + man("b", "honest", 0, 0, 600, 2));
        for (int rule = 0; rule <= 4; rule++) {
            C.answers("rule " + rule, new int[] {x.by(rule, false, 4), x.by(rule, true, 4), x.trouble()}, rule == 2 ? 1 : 0, rule == 2 ? 1 : 0, 0);
        }
        C.answers("each sum", new int[] {x.by(0, false, 0), x.by(0, false, 1), x.by(0, false, 2), x.by(0, false, 3), x.by(0, false, 4), x.by(0, false, 5)},
            2, 0, 0, 5, 0, 2);
        C.answers("none such", new int[] {x.by(-1, false, 0), x.trouble(), x.by(5, true, 0), x.trouble(), x.by(0, true, -1), x.trouble(), x.by(4, false, 6),
            x.trouble()}, NONE, 1, NONE, 1, NONE, 1, NONE, 1);
        C.sentence("by: all staff go by it, each on his STRETCH; roving: all on all PLACES");
        String two = plain(4, 20, 5, 5, staff("s", "row", 0, 1, 1) + staff("t", "eye", 3, 2, 2));
        NextAtBar y = Checks.bar(two + man("a", "honest", 0, 0, 600, 0) + man("b", "honest", 0, 1, 600, 0) + man("c", "honest", 0, 2, 600, 0) + man("d", "honest", 0, 3, 600, 0));
        C.answers("who has it", new int[] {y.by(0, false, 0), y.by(0, true, 0), y.by(3, false, 3), y.by(3, true, 3), y.sum(0)}, 2, 4, 40, 10, 2);
        C.sentence("by: the EVENING, from NOW on");
        NextAtBar z = Checks.bar(plain(1, 20, 5, 5, ROW) + man("a", "honest", 0, 0, 600, 1) + man("b", "honest", 0, 0, 600, 2) + man("c", "honest", 0, 0, 600, 3));
        C.due("at first", z.by(2, false, 4), 3);
        z.pass(1);
        C.answers("a has been begun with", new int[] {z.by(2, false, 4), z.by(2, false, 0)}, 1, 3);
        z.pass(20);
        C.answers("behind the bell", new int[] {z.by(2, false, 4), z.by(2, true, 0)}, 0, 3);
    }

    private static void bestRule() {
        C.sentence("bestRule: the first such");
        NextAtBar same = Checks.bar(plain(1, 20, 5, 5, staff("s", "regular", 0, 0, 0)) + Z);
        C.answers("all alike", new int[] {same.bestRule(true), same.bestRule(false), same.trouble()}, 0, 0, 0);
        C.sentence("bestRule: OUT OF TURN is least");
        // Behind z: b at 0 by row and near, c by looks, d by what he says, e by regulars; a came first at the far end.
        String text = plain(3, 60, 5, 5, staff("s", "eye", 0, 0, 2)) + Z + man("a", "honest", 1, 2, 600, 0) + man("b", "honest", 2, 0, 600, 0)
            + man("c", "honest", 3, 2, 600, 9);
        NextAtBar x = Checks.bar(text + man("d", "liar 9", 4, 2, 600, 0) + man("e", "regular", 4, 2, 600, 0));
        C.answers("by each", new int[] {x.by(0, false, 4), x.by(1, false, 4), x.by(2, false, 4), x.by(3, false, 4), x.by(4, false, 4)}, 1, 1, 2, 3, 4);
        C.due("least", x.bestRule(true), 0);
        NextAtBar y = Checks.bar(text);
        C.answers("by each, without d and e", new int[] {y.by(0, false, 4), y.by(1, false, 4), y.by(2, false, 4), y.by(3, false, 4), y.by(4, false, 4), y.bestRule(true)},
            1, 1, 2, 0, 0, 3);
        NextAtBar regular = Checks.bar(text + man("d", "liar 9", 4, 2, 600, 0));
        C.answers("regulars alone", new int[] {regular.by(3, false, 4), regular.by(4, false, 4), regular.bestRule(true)}, 3, 0, 4);
        C.sentence("bestRule: most HAVE IT");
        NextAtBar eye = Checks.bar(plain(1, 20, 5, 5, staff("s", "row", 0, 0, 0)) + man("b", "honest", 0, 0, 600, 3) + man("a", "honest", 0, 0, 3, 9));
        C.answers("by looks alone", new int[] {eye.bestRule(false), eye.bestRule(true)}, 2, 0);
        NextAtBar last = Checks.bar(plain(1, 20, 5, 5, staff("s", "row", 0, 0, 0)) + man("b", "honest", 0, 0, 600, 3) + man("a", "regular", 0, 0, 3, 3));
        C.answers("by regulars alone", new int[] {last.bestRule(false), last.bestRule(true)}, 4, 0);
        C.sentence("bestRule: not roving");
        // On his stretch he begins with b by all rules; roving, only by looks with a first, who came first.
        NextAtBar rove = Checks.bar(plain(3, 20, 5, 5, staff("s", "row", 0, 1, 1)) + man("a", "honest", 0, 2, 3, 9) + man("b", "honest", 0, 1, 600, 0));
        C.answers("on his stretch", new int[] {rove.by(0, false, 4), rove.by(2, false, 4), rove.by(0, false, 0), rove.by(2, false, 0), rove.bestRule(true),
            rove.bestRule(false)}, 1, 1, 1, 1, 0, 0);
        C.answers("roving", new int[] {rove.by(0, true, 4), rove.by(2, true, 4), rove.by(0, true, 0), rove.by(2, true, 0)}, 1, 0, 1, 2);
    }

    // ---- a hand more

    /** Of s, who is busy with z all the time, and a at place 0, and b there with some patience: how many more have it. */
    private static int handFor(int places, int patience) {
        return Checks.bar("house long " + places + " bell 60;drink y takes 90 then 90 costs 1;drink x takes 5 then 5 costs 1" + ROW
            + man("z", "honest", 0, 0, 600, 0, "y 1") + man("a", "honest", 1, 0, 600, 0) + man("b", "honest", 1, 0, patience, 0)).hand();
    }

    private static void handFromTheMidst() {
        C.sentence("A HAND MORE: from the PLACE in the midst (long by 2, downwards), step 1");
        // The hand begins at 1 with a: steps and 5 later with b, if he is still there.
        int[][] longAndMidst = {{1, 0}, {2, 1}, {3, 1}, {4, 2}, {5, 2}, {19, 9}, {20, 10}};
        for (int[] l : longAndMidst) {
            C.answers("long " + l[0], new int[] {handFor(l[0], l[1] + 5), handFor(l[0], l[1] + 6)}, 1, 2);
        }
    }

    private static void handOnAllPlaces() {
        C.sentence("A HAND MORE: on all PLACES");
        NextAtBar x = Checks.bar(plain(20, 60, 5, 5, staff("s", "row", 0, 9, 9)) + man("a", "honest", 0, 0, 600, 0) + man("b", "honest", 0, 19, 600, 0));
        C.answers("first and last", new int[] {x.sum(0), x.hand(), x.trouble()}, 0, 2, 0);
        C.sentence("A HAND MORE: free at first, each time");
        C.answers("asked again", new int[] {x.hand(), x.hand(), x.size(3), x.sum(0)}, 2, 2, 1, 0);
        // Where the hand is now, one of the staff stood before, whose drink was at hand.
        NextAtBar y = Checks.bar(plain(1, 60, 50, 0, ROW + staff("t", "row", 0, 0, 0)) + crowd(4, 0));
        y.pass(1);
        C.due("of two", y.hand(), 0);
        Checks.house(y, plain(1, 60, 50, 0, ROW) + crowd(3, 0).replace("patience 600", "patience 1"));
        C.answers("of one", new int[] {y.sum(0), y.hand(), y.hand()}, 1, 1, 1);
    }

    private static void handBehindAllOthers() {
        C.sentence("A HAND MORE: behind all others by number");
        // s, at 0 alone, takes a, the hand b; else the hand would take a, and b gives up.
        NextAtBar x = Checks.bar(plain(2, 20, 5, 5, ROW) + man("a", "honest", 0, 0, 600, 0) + man("b", "honest", 0, 1, 1, 0));
        C.answers("one more", new int[] {x.sum(0), x.hand()}, 1, 1);
        NextAtBar three = Checks.bar(plain(2, 20, 5, 5, ROW + staff("t", "row", 0, 0, 0) + staff("u", "row", 0, 0, 0)) + man("a", "honest", 0, 0, 600, 0)
            + man("b", "honest", 0, 0, 600, 0) + man("c", "honest", 0, 0, 600, 0) + man("d", "honest", 0, 1, 1, 0));
        C.answers("behind three", new int[] {three.sum(0), three.hand()}, 3, 1);
    }

    private static void handAsks() {
        C.sentence("A HAND MORE: by RULE asked, one hand");
        // Nobody serves place 1. The hand (from place 1) begins at 0 with who says the least.
        String head = plain(2, 20, 5, 5, ROW);
        String a = man("a", "honest", 0, 1, 600, 9);
        C.due("the liar first", Checks.bar(head + a + man("b", "liar 1", 0, 1, 1, 0)).hand(), 2);
        C.due("of like ones the least number", Checks.bar(head + a + man("b", "regular", 0, 1, 1, 99)).hand(), 1);
        C.due("one hand", Checks.bar(head + man("a", "honest", 0, 1, 1, 0) + man("b", "honest", 0, 1, 1, 0) + man("c", "honest", 0, 1, 1, 0)).hand(), 1);
        C.sentence("A HAND MORE: how many more HAVE IT");
        C.answers("none", new int[] {Checks.bar(head + Z).hand(), Checks.bar(head + man("a", "honest", 0, 1, 0, 0)).hand()}, 0, 0);
        // By its new order behind x: nothing is at hand for it at first.
        NextAtBar x = Checks.bar(head + a);
        x.pass(20);
        C.answers("with the bell's second", new int[] {x.hand(), x.sum(0)}, 1, 0);
        x.pass(1);
        C.answers("no seconds left", new int[] {x.hand(), x.trouble(), x.size(3)}, 0, 0, 1);
    }

    private static void fewerByAHand() {
        C.sentence("hand: how many more HAVE IT, which may be fewer");
        // Alone s has a till 20, then b (y is at hand), e, f, l. If the hand takes b at 15 (till 35), s begins with l at 20 (till 110).
        NextAtBar x = Checks.bar("house long 1 bell 60;drink y takes 20 then 1 costs 1;drink x takes 1 then 1 costs 1;drink w takes 90 then 90 costs 1" + ASKED
            + man("a", "honest", 0, 0, 600, 0, "y 1") + man("b", "honest", 15, 0, 600, 0, "y 1") + man("l", "honest", 16, 0, 600, 0, "w 1")
            + man("e", "liar 30", 21, 0, 5, 0) + man("f", "liar 30", 22, 0, 5, 0));
        C.answers("two fewer", new int[] {x.sum(0), x.hand(), x.trouble()}, 5, -2, 0);
    }

    // ---- beforehand and the best of

    private static void beforehand() {
        C.sentence("BEFOREHAND for one: with a shelf ready at his coming");
        String head = plain(2, 20, 5, 5, ROW) + Z;
        C.due("no patience at all", Checks.bar(head + man("a", "honest", 3, 1, 0, 0)).beforehand(1), 0);
        C.due("he would wait to the bell", Checks.bar(head + man("a", "honest", 3, 1, 600, 0)).beforehand(1), 17);
        C.due("at the bell", Checks.bar(head + man("a", "honest", 20, 1, 600, 0)).beforehand(1), 0);
        C.due("others wait less, too", Checks.bar(head + man("a", "honest", 1, 0, 600, 0)).beforehand(0), 4);
        C.sentence("beforehand: -1,000: 1; 5 (he has come, or has a shelf)");
        NextAtBar x = Checks.bar(head + man("a", "honest", 3, 1, 600, 0) + man("b", "honest", 3, 1, 600, 0) + ";shelf b ready 0");
        C.answers("none such", new int[] {x.beforehand(-1), x.trouble(), x.beforehand(3), x.trouble()}, -1000, 1, -1000, 1);
        C.answers("has a shelf", new int[] {x.beforehand(2), x.trouble(), x.beforehand(0), x.trouble()}, -1000, 5, 0, 0);
        x.pass(1);
        C.answers("has come", new int[] {x.beforehand(0), x.trouble(), x.beforehand(1), x.trouble()}, -1000, 5, 17, 0);
        x.pass(2);
        C.answers("comes NOW", new int[] {x.beforehand(1), x.trouble()}, 17, 0);
        x.pass(1);
        C.answers("came", new int[] {x.beforehand(1), x.trouble(), x.beforehand(2), x.trouble()}, -1000, 5, -1000, 5);
        x.leaves(1);
        C.answers("left", new int[] {x.beforehand(1), x.trouble()}, -1000, 5);
    }

    private static void bestPlace() {
        C.sentence("BEST PLACE: the PLACE with which his WAIT is least, the first such");
        // Only place 2 of three is served, or 1 and 2 alike, or all.
        String a = man("a", "honest", 3, 0, 600, 0);
        C.due("the last", Checks.bar(plain(3, 20, 5, 5, staff("s", "row", 0, 2, 2)) + a).bestPlace(0), 2);
        C.due("the first of two", Checks.bar(plain(3, 20, 5, 5, staff("s", "row", 0, 1, 2)) + a).bestPlace(0), 1);
        C.due("the first of all", Checks.bar(plain(3, 20, 5, 5, staff("s", "row", 0, 0, 2)) + man("a", "honest", 3, 2, 600, 0)).bestPlace(0), 0);
        C.due("the last of twenty", Checks.bar(plain(20, 20, 5, 5, staff("s", "row", 0, 19, 19)) + a).bestPlace(0), 19);
        C.due("the one there is", Checks.bar(plain(1, 20, 5, 5, ROW) + a).bestPlace(0), 0);
        // Later is worse: s at 0 from 0 to 9; t at 2 from 0 to 5 (of two, who begin with who stands there).
        C.due("the least", Checks.bar("house long 3 bell 40;drink x takes 5 then 5 costs 1;drink y takes 9 then 9 costs 1" + ROW + staff("t", "row", 2, 2, 2)
            + man("z", "honest", 0, 0, 600, 0, "y 1") + man("u", "honest", 0, 2, 600, 0) + a).bestPlace(2), 2);
        C.sentence("BEST PLACE: HAVING IT; else none");
        String late = plain(2, 10, 5, 5, staff("s", "row", 0, 1, 1));
        // At 0 he would wait as long, to the bell, without it.
        C.due("begun with at the bell", Checks.bar(late + man("z", "honest", 5, 1, 600, 0) + man("a", "honest", 7, 0, 600, 0)).bestPlace(1), 1);
        C.answers("free behind the bell", new int[] {Checks.bar(late + man("z", "honest", 6, 1, 600, 0) + man("a", "honest", 7, 0, 600, 0)).bestPlace(1),
            Checks.bar(late + man("a", "honest", 7, 0, 0, 0)).bestPlace(0)}, -2, -2);
        C.due("by a shelf", Checks.bar(late + man("a", "honest", 7, 1, 0, 0) + ";shelf a ready 0").bestPlace(0), 0);
    }

    private static void bestManner() {
        C.sentence("BEST MANNER: of honest, liar by 30, polite by 30, regular, the first such");
        // s is busy with z till 60, then he asks; a, who came at 30 + n, says n as a liar.
        String head = "house long 1 bell 200;drink x takes 5 then 5 costs 1;drink y takes 60 then 60 costs 1" + ASKED + man("z", "honest", 0, 0, 600, 0, "y 1");
        String b = man("b", "honest", 10, 0, 600, 0);
        C.answers("by thirty", new int[] {Checks.bar(head + b + man("a", "honest", 39, 0, 600, 0)).bestManner(2),
            Checks.bar(head + b + man("a", "honest", 40, 0, 600, 0)).bestManner(2), Checks.bar(head + b + man("a", "honest", 41, 0, 600, 0)).bestManner(2)}, 1, 0, 0);
        C.due("with his own manner another", Checks.bar(head + b + man("a", "liar 99", 41, 0, 600, 0)).bestManner(2), 0);
        String c = man("c", "honest", 60, 0, 600, 0);
        C.due("honest of like ones", Checks.bar(head + c + man("a", "regular", 12, 0, 600, 0)).bestManner(2), 0);
        String regular = head.replace("asked", "regular");
        C.answers("regular", new int[] {Checks.bar(regular + b + man("a", "liar 9", 39, 0, 600, 0)).bestManner(2),
            Checks.bar(regular + b + man("a", "regular", 9, 0, 600, 0)).bestManner(2)}, 3, 0);
        // Polite, nobody is begun with any sooner than honest: it is never the first such.
        C.answers("polite", new int[] {Checks.bar(head + b + man("a", "polite 30", 9, 0, 600, 0)).bestManner(2),
            Checks.bar(head + b + man("a", "polite 30", 9, 0, 600, 0)).waits(2), Checks.bar(head + b + man("a", "honest", 9, 0, 600, 0)).waits(2)}, 0, 56, 51);
        C.sentence("BEST MANNER: HAVING IT; else none");
        String late = plain(1, 10, 5, 5, ASKED) + man("z", "honest", 5, 0, 600, 0) + man("b", "honest", 6, 0, 600, 0);
        C.due("at the bell as a liar alone", Checks.bar(late + man("a", "honest", 7, 0, 600, 0)).bestManner(2), 1);
        C.due("never", Checks.bar(late + man("a", "honest", 7, 0, 3, 0)).bestManner(2), -2);
        C.due("by a shelf", Checks.bar(late + man("a", "regular", 7, 0, 3, 0) + ";shelf a ready 9").bestManner(2), 0);
    }

    private static void refusedOfTheBest() {
        C.sentence("bestPlace, bestManner, leastLook: NONE: 1; 5 (he has come)");
        NextAtBar x = Checks.bar(plain(2, 20, 5, 5, ROW) + Z + man("a", "honest", 0, 1, 2, 0) + man("b", "honest", 4, 1, 600, 0) + man("c", "honest", 1, 1, 600, 0));
        for (int p : new int[] {-1, 4, Integer.MIN_VALUE, Integer.MAX_VALUE}) {
            C.answers("none such " + p, new int[] {x.bestPlace(p), x.trouble(), x.bestManner(p), x.trouble(), x.leastLook(p), x.trouble()}, NONE, 1, NONE, 1, NONE, 1);
        }
        C.answers("not come yet", new int[] {x.bestPlace(0), x.trouble(), x.bestManner(0), x.trouble(), x.leastLook(0), x.trouble()}, 0, 0, 0, 0, 0, 0);
        x.pass(4);
        x.leaves(3);
        for (int p : new int[] {0, 1, 3}) {
            C.answers("has come " + p, new int[] {x.bestPlace(p), x.trouble(), x.bestManner(p), x.trouble(), x.leastLook(p), x.trouble()}, NONE, 5, NONE, 5, NONE, 5);
        }
        C.answers("comes NOW", new int[] {x.bestPlace(2), x.trouble(), x.bestManner(2), x.trouble(), x.leastLook(2), x.trouble()}, 0, 0, -2, 0, -2, 0);
        x.pass(1);
        C.answers("has come", new int[] {x.bestPlace(2), x.trouble(), x.bestManner(2), x.trouble(), x.leastLook(2), x.trouble()}, NONE, 5, NONE, 5, NONE, 5);
    }

    private static void leastLook() {
        C.sentence("LEAST LOOK: of 0 .. 99 the least by which his WAIT is as little as by any");
        String head = plain(1, 40, 5, 5, staff("s", "eye", 0, 0, 0)) + Z;
        // a comes behind b: he needs one more than b; ahead of him: as many.
        for (int look : new int[] {0, 1, 50, 97, 98}) {
            C.due("behind " + look, Checks.bar(head + man("b", "honest", 1, 0, 600, look) + man("a", "honest", 2, 0, 600, 7)).leastLook(2), look + 1);
            C.due("ahead of " + look, Checks.bar(head + man("b", "honest", 3, 0, 600, look) + man("a", "honest", 2, 0, 600, 7)).leastLook(2), look);
        }
        C.due("behind 99 no look helps", Checks.bar(head + man("b", "honest", 1, 0, 600, 99) + man("a", "honest", 2, 0, 600, 7)).leastLook(2), 0);
        C.due("ahead of 99", Checks.bar(head + man("b", "honest", 3, 0, 600, 99) + man("a", "honest", 2, 0, 600, 7)).leastLook(2), 99);
        C.due("behind two", Checks.bar(head + man("b", "honest", 1, 0, 600, 99) + man("c", "honest", 1, 0, 600, 40) + man("a", "honest", 2, 0, 600, 7)).leastLook(3), 41);
        C.sentence("LEAST LOOK: HAVING IT; else none");
        String late = plain(1, 10, 5, 5, staff("s", "eye", 0, 0, 0)) + man("z", "honest", 5, 0, 600, 0) + man("b", "honest", 6, 0, 600, 50);
        C.due("at the bell", Checks.bar(late + man("a", "honest", 7, 0, 600, 0)).leastLook(2), 51);
        C.due("never", Checks.bar(late + man("a", "honest", 7, 0, 3, 99)).leastLook(2), -2);
        C.due("by a shelf", Checks.bar(late + man("a", "honest", 7, 0, 3, 99) + ";shelf a ready 10").leastLook(2), 0);
    }

    // ---- cut

    private static void cut() {
        String two = staff("s", "row", 0, 0, 0) + staff("t", "row", 0, 0, 0);
        C.sentence("CUT: the first from 0 to a PLACE, the second from the next one to the end (0 up to long less 2)");
        // A man at each of two places: whoever stands at the cut is of the first.
        for (int at = 0; at <= 3; at++) {
            NextAtBar x = Checks.bar(plain(5, 20, 5, 5, two) + man("a", "honest", 0, at, 600, 0) + man("b", "honest", 0, at + 1, 600, 0));
            C.answers("between " + at + " and the next", new int[] {x.cut(), x.trouble(), x.cutWaits(), x.trouble()}, at, 0, 0, 0);
        }
        NextAtBar ends = Checks.bar(plain(5, 20, 5, 5, two) + man("a", "honest", 0, 0, 600, 0) + man("b", "honest", 0, 4, 600, 0));
        C.answers("the first such", new int[] {ends.cut(), ends.cutWaits()}, 0, 0);
        NextAtBar least = Checks.bar(plain(5, 40, 5, 5, two) + man("a", "honest", 0, 1, 600, 0) + man("b", "honest", 0, 2, 600, 0) + man("c", "honest", 0, 3, 600, 0)
            + man("d", "honest", 0, 3, 600, 0));
        C.answers("least together", new int[] {least.cut(), least.cutWaits()}, 2, 10);
        // s alone on all places would be quicker than t with his steps, but that is no cut.
        NextAtBar slow = Checks.bar(plain(2, 40, 5, 5, staff("s", "row", 0, 0, 0) + staff("t", "row", 0, 0, 0, 9, 1)) + man("a", "honest", 0, 1, 600, 0)
            + man("b", "honest", 0, 1, 600, 0));
        C.answers("no further than long less 2", new int[] {slow.cut(), slow.cutWaits()}, 0, 14);
        C.sentence("CUT: of two staff or more, the others as they are");
        NextAtBar three = Checks.bar(plain(3, 20, 5, 5, two + staff("u", "row", 0, 1, 1)) + man("a", "honest", 0, 1, 600, 0) + man("b", "honest", 0, 1, 600, 0)
            + man("c", "honest", 0, 2, 600, 0));
        // At 0: t takes a, u b, t c at 5. At 1: s a, u b, t c: none waits.
        C.answers("three", new int[] {three.cut(), three.cutWaits()}, 1, 0);
        NextAtBar four = Checks.bar(plain(3, 20, 5, 5, two + staff("u", "row", 0, 0, 0)) + man("a", "honest", 0, 2, 600, 0) + man("b", "honest", 0, 2, 600, 0));
        C.answers("the third stays off", new int[] {four.cut(), four.cutWaits()}, 0, 5);
        C.sentence("cut, cutWaits: 5 (one of the staff alone, or one PLACE)");
        NextAtBar alone = Checks.bar(plain(2, 20, 5, 5, ROW) + Z);
        C.answers("alone", new int[] {alone.cut(), alone.trouble(), alone.cutWaits(), alone.trouble()}, NONE, 5, NONE, 5);
        NextAtBar narrow = Checks.bar(plain(1, 20, 5, 5, two) + Z);
        C.answers("one place", new int[] {narrow.cut(), narrow.trouble(), narrow.cutWaits(), narrow.trouble()}, NONE, 5, NONE, 5);
        NextAtBar both = Checks.bar(plain(2, 20, 5, 5, two) + Z);
        C.answers("two and two", new int[] {both.cut(), both.trouble(), both.cutWaits(), both.trouble()}, 0, 0, 0, 0);
        NextAtBar none = new NextAtBar();
        C.answers("no house", new int[] {none.cut(), none.trouble(), none.cutWaits(), none.trouble()}, NONE, 1, NONE, 1);
    }

    // ---- letting, bells

    private static void letCosts() {
        C.sentence("COST: his WAIT then less his WAIT else");
        // z till 5; a says 1, b 1 (polite), c 3.
        String text = plain(1, 40, 5, 5, ASKED) + Z + man("a", "honest", 1, 0, 600, 0) + man("b", "liar 1", 2, 0, 600, 0) + man("c", "honest", 3, 0, 600, 0)
            + man("d", "honest", 9, 0, 600, 0);
        NextAtBar x = Checks.bar(text);
        C.answers("nobody there yet", new int[] {x.letCosts(1, 2), x.trouble()}, -1000, 5);
        x.pass(4);
        // a is begun with at 5, b at 10, c at 15.
        C.answers("a place in the row each", new int[] {x.letCosts(1, 2), x.letCosts(1, 3), x.letCosts(2, 3), x.trouble()}, 5, 10, 5, 0);
        C.answers("says as much: he may", new int[] {x.letCosts(2, 1), x.trouble(), x.person(2, 3)}, 0, 0, 1);
        C.answers("nothing is changed", new int[] {x.person(1, 3), x.size(8), x.next(0)}, 1, 1, 1);
        C.sentence("letCosts: -1,000: 1 (unlike); 5 (as for lets())");
        C.answers("unlike", new int[] {x.letCosts(1, 1), x.trouble(), x.letCosts(-1, 1), x.trouble(), x.letCosts(1, -1), x.trouble(), x.letCosts(5, 1), x.trouble(),
            x.letCosts(1, 5), x.trouble(), x.letCosts(-1, -1), x.trouble()}, -1000, 1, -1000, 1, -1000, 1, -1000, 1, -1000, 1, -1000, 1);
        C.answers("isn't waiting", new int[] {x.letCosts(0, 1), x.trouble(), x.letCosts(1, 0), x.trouble(), x.letCosts(4, 1), x.trouble(), x.letCosts(1, 4), x.trouble()},
            -1000, 5, -1000, 5, -1000, 5, -1000, 5);
        C.answers("says more already", new int[] {x.letCosts(3, 1), x.trouble(), x.letCosts(3, 2), x.trouble()}, -1000, 5, -1000, 5);
        // It may cost him the whole evening, or his patience.
        NextAtBar y = Checks.bar(plain(1, 9, 5, 5, ASKED) + Z + man("a", "honest", 1, 0, 600, 0) + man("b", "honest", 2, 0, 600, 0));
        y.pass(3);
        C.due("to the bell", y.letCosts(1, 2), 4);
        NextAtBar w = Checks.bar(plain(1, 40, 5, 5, ASKED) + Z + man("a", "honest", 1, 0, 6, 0) + man("b", "honest", 2, 0, 600, 0));
        w.pass(3);
        C.due("till he gives up", w.letCosts(1, 2), 2);
    }

    private static void anotherBell() {
        C.sentence("BY ANOTHER BELL: the EVENING up to that second (who hasn't come by then counts nowhere)");
        String text = plain(2, 10, 5, 5, ROW) + man("a", "honest", 4, 1, 600, 0) + man("b", "honest", 6, 0, 600, 0) + man("c", "honest", 6, 1, 2, 0);
        NextAtBar x = Checks.bar(text);
        C.answers("at 3", new int[] {x.bell(3, 0), x.bell(3, 1), x.bell(3, 2), x.bell(3, 3), x.bell(3, 4), x.bell(3, 5)}, 0, 0, 0, 0, 0, 0);
        C.answers("at 4", new int[] {x.bell(4, 0), x.bell(4, 2), x.bell(4, 3)}, 0, 1, 0);
        C.answers("at 5", new int[] {x.bell(5, 0), x.bell(5, 2), x.bell(5, 3)}, 0, 1, 1);
        C.answers("at 6", new int[] {x.bell(6, 0), x.bell(6, 1), x.bell(6, 2), x.bell(6, 3), x.bell(6, 5)}, 1, 0, 2, 2, 1);
        C.answers("at 7", new int[] {x.bell(7, 1), x.bell(7, 3)}, 0, 4);
        C.answers("at 8", new int[] {x.bell(8, 1), x.bell(8, 2), x.bell(8, 3)}, 1, 1, 6);
        C.answers("at the bell", new int[] {x.bell(10, 3), x.sum(3), x.bell(10, 2)}, 8, 8, 1);
        C.answers("at 603", new int[] {x.bell(603, 1), x.bell(603, 2), x.bell(603, 3)}, 1, 1, 601);
        C.answers("at 604", new int[] {x.bell(604, 1), x.bell(604, 2), x.bell(604, 3)}, 2, 0, 602);
        C.sentence("bell: NONE: 2 (NOW .. 900)");
        C.answers("from 0", new int[] {x.bell(0, 0), x.trouble(), x.bell(-1, 0), x.trouble(), x.bell(900, 1), x.trouble(), x.bell(901, 1), x.trouble()},
            0, 0, NONE, 2, 2, 0, NONE, 2);
        C.answers("far out", new int[] {x.bell(Integer.MAX_VALUE, 0), x.trouble(), x.bell(Integer.MIN_VALUE, 0), x.trouble()}, NONE, 2, NONE, 2);
        C.sentence("bell: NONE: 1 (none such), ahead of 2");
        C.answers("none such", new int[] {x.bell(5, -1), x.trouble(), x.bell(5, 6), x.trouble(), x.bell(901, 6), x.trouble()}, NONE, 1, NONE, 1, NONE, 1);
        C.sentence("bell: from NOW on");
        x.pass(7);
        C.answers("from 7", new int[] {x.bell(6, 0), x.trouble(), x.bell(7, 0), x.trouble(), x.bell(7, 2), x.bell(7, 3)}, NONE, 2, 1, 0, 2, 4);
        x.pass(4);
        C.answers("from 11", new int[] {x.bell(10, 0), x.trouble(), x.bell(11, 2), x.bell(11, 3), x.bell(900, 1)}, NONE, 2, 1, 9, 2);
    }

    private static void waitingAt() {
        C.sentence("waitingAt: behind a second of the EVENING");
        NextAtBar x = Checks.bar(plain(2, 10, 5, 5, ROW) + man("a", "honest", 4, 1, 600, 0) + man("b", "honest", 6, 0, 600, 0) + man("c", "honest", 6, 1, 2, 0)
            + man("d", "honest", 6, 0, 600, 0) + man("e", "honest", 10, 1, 600, 0));
        int[] all = new int[11];
        for (int t = 0; t <= 10; t++) {
            all[t] = x.waitingAt(t);
        }
        C.answers("each", all, 0, 0, 0, 0, 1, 1, 3, 3, 2, 2, 3);
        C.sentence("waitingAt: NONE: 2 (NOW up to the bell)");
        C.answers("from 0", new int[] {x.waitingAt(-1), x.trouble(), x.waitingAt(0), x.trouble(), x.waitingAt(10), x.trouble(), x.waitingAt(11), x.trouble(),
            x.waitingAt(Integer.MAX_VALUE), x.trouble(), x.waitingAt(Integer.MIN_VALUE), x.trouble()}, NONE, 2, 0, 0, 3, 0, NONE, 2, NONE, 2, NONE, 2);
        x.pass(7);
        C.answers("from 7", new int[] {x.waitingAt(6), x.trouble(), x.waitingAt(7), x.trouble(), x.waitingAt(10)}, NONE, 2, 3, 0, 3);
        x.pass(4);
        C.answers("from 11", new int[] {x.waitingAt(10), x.trouble(), x.waitingAt(11), x.trouble()}, NONE, 2, NONE, 2);
    }

    // ---- honesty

    private static void honesty() {
        C.sentence("HONESTY: who is in a set is a liar by 30, all others honest");
        // s is busy with z till 60; then he asks b (came at 10) and a (at 40, 39 or 41), who as a liar says 10, 9 or 11.
        String head = "house long 1 bell 200;drink x takes 5 then 5 costs 1;drink y takes 60 then 60 costs 1" + ASKED + man("z", "polite 99", 0, 0, 600, 0, "y 1")
            + man("b", "liar 99", 10, 0, 600, 0);
        NextAtBar x = Checks.bar(head + man("a", "regular", 40, 0, 600, 0));
        C.answers("says as much", new int[] {x.honesty(4, false), x.honesty(4, true), x.honesty(0, true), x.honesty(2, false)}, 25, 50, 75, 50);
        NextAtBar y = Checks.bar(head + man("a", "polite 5", 39, 0, 600, 0));
        C.answers("says less", new int[] {y.honesty(4, false), y.honesty(4, true), y.honesty(6, false)}, 21, 55, 76);
        NextAtBar w = Checks.bar(head + man("a", "liar 40", 41, 0, 600, 0));
        C.answers("says more", new int[] {w.honesty(4, false), w.honesty(4, true)}, 24, 50);
        NextAtBar first = Checks.bar(plain(1, 9, 5, 5, ASKED) + man("a", "liar 99", 0, 0, 1, 0) + man("b", "regular", 0, 0, 1, 0));
        C.answers("the first of all, too", new int[] {first.honesty(0, true), first.honesty(1, false), first.honesty(2, false), first.honesty(2, true), first.waits(0)},
            1, 0, 0, 1, 0);
        C.sentence("HONESTY: regulars, too");
        NextAtBar r = Checks.bar(head.replace("asked", "regular") + man("a", "regular", 40, 0, 600, 0));
        C.answers("as told he goes first", new int[] {r.waits(2), r.honesty(0, true), r.honesty(4, false), r.honesty(4, true)}, 20, 75, 25, 50);
        C.answers("none is one", new int[] {r.honesty(2, false), r.honesty(2, true), r.honesty(7, false)}, 50, 25, 75);
        C.sentence("HONESTY: from second 0 on as told");
        x.pass(50);
        x.leaves(1);
        x.calls(2);
        C.answers("whatever has been done", new int[] {x.honesty(4, false), x.honesty(4, true), x.honesty(0, true)}, 25, 50, 75);
        NextAtBar moved = Checks.bar(plain(2, 20, 5, 5, staff("s", "eye", 0, 0, 0)) + Z + man("a", "honest", 1, 0, 600, 0) + man("b", "honest", 1, 0, 600, 4));
        moved.pass(2);
        moved.moves(1, 1);
        moved.calls(1);
        C.answers("who moved and called", new int[] {moved.honesty(2, false), moved.honesty(2, true), moved.honesty(7, false), moved.honesty(7, true)}, 9, 4, 13, 0);
        NextAtBar shelf = Checks.bar(plain(2, 20, 5, 5, ROW) + man("a", "honest", 1, 1, 600, 0) + ";shelf a ready 7");
        C.answers("with shelves", new int[] {shelf.honesty(1, false), shelf.honesty(0, true)}, 6, 6);
        C.sentence("honesty: NONE: 2 (0 up to all)");
        C.answers("three", new int[] {x.honesty(-1, true), x.trouble(), x.honesty(0, false), x.trouble(), x.honesty(7, true), x.trouble(), x.honesty(8, true), x.trouble(),
            x.honesty(Integer.MIN_VALUE, true), x.trouble(), x.honesty(Integer.MAX_VALUE, false), x.trouble()}, NONE, 2, 0, 0, 0, 0, NONE, 2, NONE, 2, NONE, 2);
        NextAtBar one = Checks.bar(plain(1, 20, 5, 5, ROW) + Z);
        C.answers("one", new int[] {one.honesty(1, false), one.trouble(), one.honesty(2, false), one.trouble()}, 0, 0, NONE, 2);
        NextAtBar ten = Checks.bar(plain(1, 20, 5, 5, ROW) + crowd(10, 0));
        C.answers("ten", new int[] {ten.honesty(1023, true), ten.trouble(), ten.honesty(1024, true), ten.trouble(), ten.honesty(1023, false), ten.trouble()},
            0, 0, NONE, 2, 150, 0);
    }

    private static void rest() {
        C.sentence("AT REST: if nobody's WAIT would be less if he alone changed over");
        // By row no lie helps: nobody's WAIT is less, so each set is at rest.
        NextAtBar row = Checks.bar(plain(1, 40, 5, 5, ROW) + crowd(3, 0));
        for (int set = 0; set < 8; set++) {
            C.answers("by row " + set, new int[] {row.rest(set), row.trouble()}, 1, 0);
        }
        C.due("all of them", row.rests(), 8);
        // By asking: a, then b (came at 1), c (2). Where c alone lies, b would gain by lying; where none, c.
        String men = man("a", "honest", 0, 0, 600, 0) + man("b", "regular", 1, 0, 600, 0) + man("c", "liar 9", 2, 0, 600, 0);
        NextAtBar x = Checks.bar(plain(1, 40, 5, 5, ASKED) + men);
        C.answers("asked", new int[] {x.rest(0), x.rest(1), x.rest(2), x.rest(3), x.rest(4), x.rest(5), x.rest(6), x.rest(7)}, 0, 0, 1, 1, 0, 0, 1, 1);
        C.due("four", x.rests(), 4);
        // All at once, and who isn't the first gives up: the first is the liar of the least number, so only if a lies nobody gains.
        NextAtBar first = Checks.bar(plain(1, 9, 5, 5, ASKED) + times(3, ";person p", " regular comes 0 at 0 patience 1 look 0 wants x 1"));
        C.answers("the first", new int[] {first.rest(0), first.rest(1), first.rest(2), first.rest(3), first.rest(4), first.rest(5), first.rest(6), first.rest(7),
            first.rests()}, 0, 1, 0, 1, 0, 1, 0, 1, 4);
        C.sentence("rest: NONE: 2");
        C.answers("wrong", new int[] {x.rest(-1), x.trouble(), x.rest(8), x.trouble(), x.rest(7), x.trouble(), x.rest(Integer.MIN_VALUE), x.trouble()},
            NONE, 2, NONE, 2, 1, 0, NONE, 2);
        NextAtBar one = Checks.bar(plain(1, 40, 5, 5, ASKED) + Z);
        C.answers("one", new int[] {one.rest(0), one.rest(1), one.rest(2), one.rests()}, 1, 1, NONE, 2);
        C.sentence("RESTS: of 7 people at most, else refused, 3");
        NextAtBar seven = Checks.bar(plain(1, 40, 5, 5, ROW) + crowd(7, 0));
        C.answers("seven", new int[] {seven.rests(), seven.trouble(), seven.rest(127), seven.rest(128)}, 128, 0, 1, NONE);
        NextAtBar eight = Checks.bar(plain(1, 40, 5, 5, ROW) + crowd(8, 0));
        C.answers("eight", new int[] {eight.rests(), eight.trouble(), eight.rest(255), eight.trouble()}, NONE, 3, 1, 0);
        NextAtBar ten = Checks.bar(plain(1, 40, 5, 5, ROW) + crowd(10, 0));
        C.answers("ten", new int[] {ten.rests(), ten.trouble(), ten.rest(1023), ten.trouble(), ten.rest(1024), ten.trouble()}, NONE, 3, 1, 0, NONE, 2);
    }

    // ---- orders

    private static void row() {
        String far = staff("s", "row", 0, 1, 1, 9, 2);
        C.sentence("ROW: one hand, no STEPS, all WAITING NOW");
        // s has two hands, steps of 9 and serves place 1 alone.
        NextAtBar x = Checks.bar(plain(3, 40, 5, 3, far) + man("a", "honest", 0, 0, 600, 0) + man("b", "honest", 0, 2, 600, 0) + man("c", "honest", 9, 0, 600, 0));
        C.answers("nobody", new int[] {x.row(0, 0), x.trouble(), x.rowSum(0), x.trouble()}, NONE, 1, 0, 0);
        x.pass(1);
        C.answers("two", new int[] {x.row(0, 0), x.row(0, 1), x.trouble(), x.row(0, 2), x.trouble(), x.rowSum(0), x.trouble()}, 0, 1, 0, NONE, 1, 13, 0);
        x.leaves(0);
        C.answers("one", new int[] {x.row(0, 0), x.row(0, 1), x.rowSum(0)}, 1, NONE, 5);
        C.sentence("ROW: the first behind what that one of the staff began with last");
        // s began with z's ale; t with none.
        NextAtBar y = Checks.bar("house long 2 bell 60;drink ale takes 9 then 1 costs 1;drink gin takes 4 then 4 costs 1" + ROW + staff("t", "row", 0, 0, 0)
            + man("z", "honest", 0, 0, 600, 0, "ale 1") + man("a", "honest", 0, 1, 600, 0, "gin 1") + man("b", "honest", 0, 1, 600, 0, "ale 1"));
        y.pass(1);
        C.answers("behind ale", new int[] {y.row(0, 0), y.row(0, 1), y.rowSum(0)}, 2, 1, 6);
        C.answers("behind nothing", new int[] {y.row(1, 0), y.row(1, 1), y.rowSum(1)}, 1, 2, 17);
        NextAtBar alone = Checks.bar(plain(2, 40, 5, 3, ROW) + man("a", "honest", 0, 1, 600, 0) + man("b", "honest", 0, 1, 600, 0));
        alone.pass(1);
        C.answers("the sum alone", new int[] {alone.rowSum(0), alone.trouble()}, 13, 0);
        alone.leaves(1);
        C.answers("the sum of one", new int[] {alone.rowSum(0), alone.row(0, 0)}, 5, 0);
        C.sentence("ROW: of like ones the first by numbers");
        NextAtBar like = Checks.bar(plain(3, 40, 5, 5, far) + crowd(4, 0));
        like.pass(1);
        C.answers("all alike", new int[] {like.row(0, 0), like.row(0, 1), like.row(0, 2), like.row(0, 3), like.rowSum(0)}, 0, 1, 2, 3, 50);
        // ale 4 then 1, gin 4 then 1: a and c of ale, b of gin: a, c, b or c, a, b (4, 5, 9), or b ahead (4, 8, 9): 18 is least.
        NextAtBar pairs = Checks.bar("house long 2 bell 60;drink ale takes 4 then 1 costs 1;drink gin takes 4 then 1 costs 1" + ROW
            + man("a", "honest", 0, 1, 600, 0, "ale 1") + man("b", "honest", 0, 1, 600, 0, "gin 1") + man("c", "honest", 0, 1, 600, 0, "ale 1")
            + man("d", "honest", 0, 1, 600, 0, "gin 1"));
        pairs.pass(1);
        // ale, ale, gin, gin: 4, 5, 9, 10: 28.
        C.answers("pairs", new int[] {pairs.row(0, 0), pairs.row(0, 1), pairs.row(0, 2), pairs.row(0, 3), pairs.rowSum(0)}, 0, 2, 1, 3, 28);
        C.sentence("ROW: for 7 at most (3)");
        NextAtBar ten = Checks.bar(plain(3, 40, 5, 5, far) + crowd(10, 0));
        ten.pass(1);
        for (int n = 10; n >= 7; n--) {
            boolean few = n == 7;
            C.answers("for " + n, new int[] {ten.row(0, 0), ten.trouble(), ten.row(0, n - 1), ten.trouble(), ten.rowSum(0), ten.trouble()},
                few ? 3 : NONE, few ? 0 : 3, few ? 9 : NONE, few ? 0 : 3, few ? 140 : NONE, few ? 0 : 3);
            ten.leaves(10 - n);
        }
        C.sentence("row: NONE: 1 (staff, i), ahead of 3; rowSum: NONE: 1");
        NextAtBar eight = Checks.bar(plain(3, 40, 5, 5, far) + crowd(8, 0));
        eight.pass(1);
        C.answers("eight", new int[] {eight.row(0, -1), eight.trouble(), eight.row(0, 8), eight.trouble(), eight.row(1, 0), eight.trouble(), eight.row(-1, 0),
            eight.trouble(), eight.rowSum(-1), eight.trouble(), eight.rowSum(1), eight.trouble()}, NONE, 1, NONE, 1, NONE, 1, NONE, 1, NONE, 1, NONE, 1);
    }

    // ---- tellings

    private static String five(String tellings) {
        return plain(1, 9, 1, 1, ROW) + times(5, ";person p", " honest comes 1 at 0 patience 0 look 0 wants x 1") + tellings;
    }

    private static int liars(String tellings) {
        return Checks.bar(five(tellings)).liars();
    }

    private static void liars() {
        C.sentence("LIARS: TRUE TELLINGS: none, if all may be true together");
        C.answers("none", new int[] {liars(""), liars(";says pa pa before pb"), liars(";says pa pa before pb;says pb pa before pb;says pc pb before pc")}, 0, 0, 0);
        C.sentence("LIARS: one who contradicts himself must lie");
        C.answers("alone", new int[] {liars(";says pd pa before pb;says pd pb before pa"), liars(";says pe pa before pb;says pe pb before pc;says pe pc before pa")}, 8, 16);
        C.sentence("LIARS: a ring of all people");
        C.answers("five tellers", new int[] {liars(";says pa pa before pb;says pb pb before pc;says pc pc before pd;says pd pd before pe;says pe pe before pa"),
            liars(";says pa pa before pb;says pb pb before pc;says pc pc before pd;says pd pd before pe")}, 1, 0);
        C.sentence("LIARS: the fewest tellers (with all their TELLINGS)");
        C.answers("one of three", new int[] {liars(";says pa pa before pb;says pb pc before pd;says pe pb before pa;says pe pd before pc")}, 16);
        C.due("two", liars(";says pa pa before pb;says pb pb before pa;says pc pc before pd;says pd pd before pc"), 5);
        // pa lies or pb and pc do: one is fewer, though pb alone has fewer bits than pd.
        C.due("fewer ahead of less", liars(";says pd pa before pb;says pa pb before pa;says pb pb before pa"), 8);
        C.sentence("LIARS: of like ones the least bits");
        C.answers("of two", new int[] {liars(";says pe pa before pb;says pd pb before pa"), liars(";says pb pa before pb;says pc pb before pa"),
            liars(";says pb pa before pb;says pa pb before pa")}, 8, 2, 1);
        C.sentence("LIARS: all tellers, if each contradicts himself");
        C.due("four", liars(";says pa pa before pb;says pa pb before pa;says pb pa before pb;says pb pb before pa;says pc pa before pb;says pc pb before pa"
            + ";says pe pa before pb;says pe pb before pa"), 23);
    }

    private static void surely() {
        C.sentence("SURELY: one came ahead of another one in each order, by the TELLINGS of those others");
        NextAtBar x = Checks.bar(five(";says pa pa before pb;says pb pb before pc;says pc pc before pd;says pe pd before pe;says pe pe before pd"));
        // pe must lie.
        C.answers("from one to the next, and on", new int[] {x.liars(), x.surely(0, 1), x.surely(0, 2), x.surely(0, 3), x.surely(1, 3), x.trouble()}, 16, 1, 1, 1, 1, 0);
        C.answers("not back", new int[] {x.surely(1, 0), x.surely(3, 0), x.surely(2, 1), x.trouble()}, 0, 0, 0, 0);
        C.answers("nothing of the liar's", new int[] {x.surely(3, 4), x.surely(4, 3), x.surely(0, 4), x.trouble()}, 0, 0, 0, 0);
        NextAtBar ring = Checks.bar(five(";says pa pe before pd;says pb pd before pc;says pc pc before pb;says pd pb before pa"));
        C.answers("down the row", new int[] {ring.surely(4, 0), ring.surely(4, 1), ring.surely(3, 0), ring.surely(0, 4)}, 1, 1, 1, 0);
        NextAtBar between = Checks.bar(five(";says pa pb before pa;says pa pa before pc"));
        C.answers("by the first", new int[] {between.surely(1, 2), between.surely(2, 1), between.surely(1, 0), between.surely(0, 2), between.liars()}, 1, 0, 1, 1, 0);
        NextAtBar last = Checks.bar(five(";says pa pb before pe;says pa pe before pc"));
        C.answers("by the last", new int[] {last.surely(1, 2), last.surely(2, 1), last.surely(1, 4), last.surely(4, 2), last.liars()}, 1, 0, 1, 1, 0);
        C.sentence("surely: NONE: 1 (unlike)");
        C.answers("wrong", new int[] {x.surely(0, 0), x.trouble(), x.surely(4, 4), x.trouble(), x.surely(-1, 0), x.trouble(), x.surely(0, -1), x.trouble(),
            x.surely(5, 0), x.trouble(), x.surely(0, 5), x.trouble(), x.surely(-1, -1), x.trouble()},
            NONE, 1, NONE, 1, NONE, 1, NONE, 1, NONE, 1, NONE, 1, NONE, 1);
        NextAtBar one = Checks.bar(plain(1, 9, 1, 1, ROW) + Z);
        C.answers("one person", new int[] {one.surely(0, 0), one.trouble(), one.liars(), one.so()}, NONE, 1, 0, 0);
    }

    private static void so() {
        C.sentence("so: by the seconds in which they came (of like ones by numbers)");
        String men = plain(1, 9, 1, 1, ROW) + man("pa", "liar 9", 5, 0, 0, 0) + man("pb", "honest", 5, 0, 0, 0) + man("pc", "polite 9", 4, 0, 0, 0);
        C.answers("at once", new int[] {Checks.bar(men + ";says pc pa before pb").so(), Checks.bar(men + ";says pc pb before pa").so()}, 1, 0);
        C.answers("by seconds", new int[] {Checks.bar(men + ";says pc pc before pa").so(), Checks.bar(men + ";says pc pa before pc").so()}, 1, 0);
        C.answers("eight", new int[] {Checks.bar(men + ";says pc pc before pa".repeat(8)).so(), Checks.bar(men).so()}, 8, 0);
    }

    private static void noHouse() {
        C.sentence("other evenings, orders, tellings: 1 (no HOUSE), ahead of 2 and 3");
        NextAtBar x = new NextAtBar();
        C.answers("none", new int[] {x.by(0, false, 0), x.trouble(), x.bestRule(true), x.trouble(), x.bestRule(false), x.trouble(), x.hand(), x.trouble(),
            x.beforehand(0), x.trouble(), x.bestPlace(0), x.trouble(), x.bestManner(0), x.trouble(), x.leastLook(0), x.trouble(), x.letCosts(0, 1), x.trouble()},
            NONE, 1, NONE, 1, NONE, 1, -100, 1, -1000, 1, NONE, 1, NONE, 1, NONE, 1, -1000, 1);
        x.undo();
        C.answers("none of these", new int[] {x.bell(0, 0), x.trouble(), x.bell(-1, 0), x.trouble(), x.waitingAt(0), x.trouble(), x.waitingAt(-1), x.trouble(),
            x.honesty(0, true), x.trouble(), x.honesty(-1, true), x.trouble(), x.rest(0), x.trouble(), x.rest(-1), x.trouble(), x.rests(), x.trouble()},
            NONE, 1, NONE, 1, NONE, 1, NONE, 1, NONE, 1, NONE, 1, NONE, 1, NONE, 1, NONE, 1);
        x.undo();
        C.answers("nor of these", new int[] {x.row(0, 0), x.trouble(), x.rowSum(0), x.trouble(), x.liars(), x.trouble(), x.surely(0, 1), x.trouble(), x.so(), x.trouble()},
            NONE, 1, NONE, 1, NONE, 1, NONE, 1, NONE, 1);
    }

    public static void main(String[] args) {
        byARule();
        bestRule();
        handFromTheMidst();
        handOnAllPlaces();
        handBehindAllOthers();
        handAsks();
        fewerByAHand();
        beforehand();
        bestPlace();
        bestManner();
        refusedOfTheBest();
        leastLook();
        cut();
        letCosts();
        anotherBell();
        waitingAt();
        honesty();
        rest();
        row();
        liars();
        surely();
        so();
        noHouse();
        C.end();
    }
}
