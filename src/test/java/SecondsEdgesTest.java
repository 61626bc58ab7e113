import java.util.Arrays;

/** Part II of the document and promises 6 to 20: each sentence that names an edge has a test of its own. */
public final class SecondsEdgesTest extends Bars {
    private static final Checks C = new Checks();

    // One of the staff at 0 who serves place 0 alone: who stands elsewhere waits on and on.
    private static final String FAR = staff("s", "row", 0, 0, 0);

    private interface Question {
        int of(int p);
    }

    private static int[] ofEach(NextAtBar x, Question question) {
        int[] all = new int[x.size(4)];
        for (int p = 0; p < all.length; p++) {
            all[p] = question.of(p);
        }
        return all;
    }

    private static int[] states(NextAtBar x) {
        return ofEach(x, p -> x.person(p, 0));
    }

    private static int[] fates(NextAtBar x) {
        return ofEach(x, p -> x.fate(p));
    }

    private static int[] waits(NextAtBar x) {
        return ofEach(x, p -> x.waits(p));
    }

    private static int[] has(NextAtBar x) {
        return ofEach(x, p -> x.has(p));
    }

    private static int[] passed(NextAtBar x) {
        return ofEach(x, p -> x.passed(p));
    }

    private static int[] pushed(NextAtBar x) {
        return ofEach(x, p -> x.pushed(p));
    }

    private static NextAtBar at(String text, int now) {
        NextAtBar x = Checks.bar(text);
        for (int left = now; left > 0; left -= 200) {
            x.pass(Math.min(200, left));
        }
        C.due("now", x.size(7), now);
        return x;
    }

    // ---- a second

    private static void whoComes() {
        C.sentence("all who come at t stand WAITING at their PLACES");
        String text = plain(3, 40, 5, 5, FAR + man("a", "honest", 3, 1, 600, 0) + man("b", "honest", 0, 2, 600, 0)
            + man("c", "honest", 40, 1, 600, 0));
        C.answers("nobody there at NOW 0", states(at(text, 0)), 0, 0, 0);
        C.answers("who comes at 0", states(at(text, 1)), 0, 1, 0);
        C.answers("second 3 hasn't gone by", states(at(text, 3)), 0, 1, 0);
        C.answers("second 3 has", states(at(text, 4)), 1, 1, 0);
        C.answers("the bell's hasn't", states(at(text, 40)), 1, 1, 0);
        C.answers("the bell's has", states(at(text, 41)), 1, 1, 1);
        NextAtBar x = at(text, 41);
        C.answers("at their places", new int[] {x.elbows(0), x.elbows(1), x.elbows(2), x.waiting()}, 0, 2, 1, 3);
    }

    private static void shelfAtOrAhead() {
        C.sentence("it is ready at t or ahead: he HAS IT at t");
        String text = plain(2, 40, 5, 5, FAR + man("a", "honest", 5, 1, 600, 0) + man("b", "honest", 5, 1, 600, 0)
            + man("c", "honest", 5, 1, 600, 0) + man("d", "honest", 5, 1, 600, 0) + man("e", "honest", 5, 1, 600, 0)
            + man("f", "honest", 40, 1, 600, 0) + ";shelf a ready 5;shelf b ready 4;shelf c ready 6;shelf d ready 40;shelf e ready 0;shelf f ready 40");
        NextAtBar x = Checks.bar(text);
        C.answers("fate", fates(x), 1, 1, 1, 1, 1, 1);
        C.answers("has", has(x), 5, 5, 6, 40, 5, 40);
        C.answers("waits", waits(x), 0, 0, 1, 35, 0, 0);
        C.answers("at 5", states(at(text, 5)), 0, 0, 0, 0, 0, 0);
        C.answers("behind 5", states(at(text, 6)), 3, 3, 1, 1, 3, 0);
        C.answers("behind 6", states(at(text, 7)), 3, 3, 3, 1, 3, 0);
        C.answers("at 40", states(at(text, 40)), 3, 3, 3, 1, 3, 0);
        C.answers("behind 40", states(at(text, 41)), 3, 3, 3, 3, 3, 3);
    }

    private static void shelfAheadOfStaff() {
        C.sentence("then who has a shelf HAS IT, then the staff");
        NextAtBar x = Checks.bar(plain(1, 40, 5, 5, FAR + man("a", "honest", 5, 0, 600, 0) + man("b", "honest", 5, 0, 600, 0) + ";shelf a ready 5"));
        C.answers("fate", fates(x), 1, 0);
        C.answers("whom", new int[] {x.whom(0), x.whom(1), x.waits(1), x.served(0), x.served(1)}, -2, 0, 0, 1, NONE);
    }

    private static void shelfForWhoIsWaiting() {
        C.sentence("who is WAITING, has a shelf (no other)");
        String text = plain(2, 40, 5, 5, FAR + man("a", "honest", 0, 0, 600, 0) + man("b", "honest", 0, 1, 2, 0) + man("c", "honest", 0, 1, 600, 0)
            + ";shelf a ready 3;shelf b ready 3;shelf c ready 3");
        NextAtBar x = at(text, 3);
        x.leaves(2);
        C.answers("fate", fates(x), 0, 2, 4);
        C.answers("has", has(x), 5, -2, -2);
        x.pass(1);
        C.answers("states", states(x), 2, 4, 5);
    }

    private static void patienceOrMore() {
        C.sentence("who has been WAITING so many seconds as his patience says, or more, GIVES UP");
        String text = plain(2, 40, 5, 5, FAR + man("a", "honest", 2, 1, 5, 0) + man("b", "honest", 2, 1, 6, 0) + man("c", "honest", 3, 0, 0, 0)
            + man("d", "honest", 3, 0, 1, 0) + man("e", "honest", 40, 1, 0, 0) + man("f", "honest", 40, 1, 1, 0));
        NextAtBar x = Checks.bar(text);
        C.answers("fate", fates(x), 2, 2, 2, 0, 2, 3);
        C.answers("waits", waits(x), 5, 6, 0, 0, 0, 0);
        C.answers("has", has(x), -2, -2, -2, 8, -2, -2);
        C.answers("at 7", states(at(text, 7)), 1, 1, 4, 2, 0, 0);
        C.answers("behind 7", states(at(text, 8)), 4, 1, 4, 3, 0, 0);
        C.answers("behind 8", states(at(text, 9)), 4, 4, 4, 3, 0, 0);
        String longest = "house long 2 bell 600;drink x takes 5 then 5 costs 1" + FAR + man("a", "honest", 0, 1, 600, 0) + man("b", "honest", 0, 1, 599, 0)
            + man("c", "honest", 1, 1, 600, 0);
        C.answers("six hundred", fates(Checks.bar(longest)), 2, 2, 3);
        C.answers("six hundred long", waits(Checks.bar(longest)), 600, 599, 599);
        C.answers("who moves has waited all the same", new int[] {moved(text).fate(0), moved(text).waits(0)}, 2, 5);
    }

    private static NextAtBar moved(String text) {
        NextAtBar x = at(text, 6);
        C.due("moves", x.moves(0, 0), true);
        return x;
    }

    private static void givesUpAheadOfStaff() {
        C.sentence("GIVES UP; then the staff");
        // The staff are busy with z till 7.
        String z = plain(1, 40, 7, 7, FAR + man("z", "honest", 0, 0, 600, 0));
        C.answers("at 7", waits(Checks.bar(z + man("a", "honest", 2, 0, 5, 0))), 0, 5);
        C.answers("at 7 he gives up", fates(Checks.bar(z + man("a", "honest", 2, 0, 5, 0))), 0, 2);
        C.answers("at 8 he would", fates(Checks.bar(z + man("a", "honest", 2, 0, 6, 0))), 0, 0);
        C.answers("at 7 he is begun with", waits(Checks.bar(z + man("a", "honest", 2, 0, 6, 0))), 0, 5);
    }

    private static void shelfAheadOfGivingUp() {
        C.sentence("he HAS IT at t; then GIVES UP");
        String text = plain(2, 40, 7, 7, FAR + man("a", "honest", 2, 1, 5, 0) + man("b", "honest", 2, 1, 5, 0) + man("c", "honest", 3, 1, 0, 0)
            + man("d", "honest", 3, 1, 0, 0) + ";shelf a ready 7;shelf b ready 8;shelf c ready 3;shelf d ready 4");
        C.answers("fate", fates(Checks.bar(text)), 1, 2, 1, 2);
        C.answers("waits", waits(Checks.bar(text)), 5, 5, 0, 0);
    }

    private static void staffByNumbers() {
        C.sentence("then the staff by numbers");
        String two = staff("s", "eye", 0, 0, 0) + staff("t", "row", 0, 0, 0);
        NextAtBar x = Checks.bar(plain(1, 40, 5, 5, two + man("a", "honest", 0, 0, 600, 1)));
        C.answers("the first", new int[] {x.whom(0), x.has(0)}, 0, 5);
        // The first goes by looks, the second by numbers.
        NextAtBar y = Checks.bar(plain(1, 40, 5, 5, two + man("a", "honest", 0, 0, 600, 1) + man("b", "honest", 0, 0, 600, 2)));
        C.answers("both", new int[] {y.whom(0), y.whom(1), y.served(0), y.served(1)}, 1, 0, 1, 0);
        NextAtBar z = Checks.bar(plain(1, 40, 5, 5, staff("s", "row", 0, 0, 0) + staff("t", "row", 0, 0, 0) + staff("u", "row", 0, 0, 0)
            + times(4, ";person p", " honest comes 0 at 0 patience 600 look 0 wants x 1")));
        C.answers("three", new int[] {z.whom(0), z.whom(1), z.whom(2), z.whom(3), z.waits(3)}, 0, 1, 2, 0, 5);
    }

    private static void asLongAsAHandIsFree() {
        C.sentence("each as long as he has a hand free at t");
        String men = times(4, ";person p", " honest comes 0 at 0 patience 600 look 0 wants x 1");
        C.answers("one hand", waits(Checks.bar(plain(1, 40, 5, 5, staff("s", "row", 0, 0, 0, 0, 1) + men))), 0, 5, 10, 15);
        C.answers("two hands", waits(Checks.bar(plain(1, 40, 5, 5, staff("s", "row", 0, 0, 0, 0, 2) + men))), 0, 0, 5, 5);
        NextAtBar x = Checks.bar(plain(1, 40, 5, 5, staff("s", "row", 0, 0, 0, 0, 2) + staff("t", "row", 0, 0, 0, 0, 2) + men));
        C.answers("two hands each", new int[] {x.whom(0), x.whom(1), x.whom(2), x.whom(3), x.sum(3)}, 0, 0, 1, 1, 0);
        // Hands that are done at unlike seconds: 6 and, behind the same drink, 4; then 4 and 6 again.
        C.answers("each hand by itself", has(Checks.bar(plain(1, 40, 6, 4, staff("s", "row", 0, 0, 0, 0, 2) + men))), 6, 4, 8, 10);
    }

    private static void onHisStretch() {
        C.sentence("the NEXT one WAITING on his STRETCH: first and last PLACE of it, too");
        String men = man("a", "honest", 0, 0, 600, 0) + man("b", "honest", 0, 1, 600, 0)
            + man("c", "honest", 0, 3, 600, 0) + man("d", "honest", 0, 4, 600, 0);
        for (String rule : Model.RULES) {
            C.answers(rule + " from 1 to 3", fates(Checks.bar(plain(5, 40, 1, 1, staff("s", rule, 2, 1, 3) + men))), 3, 0, 0, 3);
            C.answers(rule + " from 0 to 4", fates(Checks.bar(plain(5, 40, 1, 1, staff("s", rule, 2, 0, 4) + men))), 0, 0, 0, 0);
            C.answers(rule + " at 4 alone", fates(Checks.bar(plain(5, 40, 1, 1, staff("s", rule, 0, 4, 4) + men))), 3, 3, 3, 0);
            C.answers(rule + " at 0 alone", fates(Checks.bar(plain(5, 40, 1, 1, staff("s", rule, 4, 0, 0) + men))), 0, 3, 3, 3);
            C.answers(rule + " at 2, where nobody stands", fates(Checks.bar(plain(5, 40, 1, 1, staff("s", rule, 2, 2, 2) + men))), 3, 3, 3, 3);
        }
    }

    private static void doneAt() {
        C.sentence("he is done at t and STEPS and TIME; at that second his hand is free again, and who was served HAS IT");
        String text = plain(4, 40, 5, 5, staff("s", "row", 0, 0, 3, 2, 1) + man("a", "honest", 0, 3, 600, 0) + man("b", "honest", 0, 3, 600, 0));
        C.answers("a at 3 steps by 2", has(Checks.bar(text)), 11, 16);
        NextAtBar x = at(text, 10);
        C.answers("at 10", new int[] {x.person(0, 0), x.staff(0, 1), x.staff(0, 2), x.person(1, 0)}, 2, 1, 11, 1);
        x.pass(1);
        C.answers("at 11", new int[] {x.person(0, 0), x.staff(0, 1), x.staff(0, 2), x.person(1, 0)}, 3, 0, 11, 1);
        x.pass(1);
        C.answers("behind 11", new int[] {x.person(0, 0), x.staff(0, 1), x.staff(0, 2), x.person(1, 0), x.person(1, 4)}, 3, 1, 16, 2, 11);
    }

    private static void noTimeAtAll() {
        C.sentence("begun with and done at the same second: his hand is free again at it");
        String text = plain(1, 9, 3, 0, staff("s", "row", 0, 0, 0) + man("a", "honest", 0, 0, 90, 0) + times(5, ";person p", " honest comes 1 at 0 patience 90 look 0 wants x 9"));
        C.answers("has", has(Checks.bar(text)), 3, 3, 3, 3, 3, 3);
        NextAtBar x = at(text, 3);
        C.answers("at 3", new int[] {x.waiting(), x.staff(0, 1), x.staff(0, 2)}, 5, 0, 3);
        x.pass(1);
        C.answers("behind 3", new int[] {x.waiting(), x.staff(0, 1), x.staff(0, 2), x.person(5, 0), x.person(5, 4), x.person(5, 5), x.served(5)}, 0, 0, 4, 3, 3, 3, 5);
    }

    private static void steps() {
        C.sentence("STEPS: his step times the PLACES between; he is there from then on");
        // By row from 2: d at 4 (2 places), then a at 0 (4 places).
        String men = man("a", "honest", 0, 0, 600, 0) + man("d", "honest", 0, 4, 600, 0);
        C.answers("two hands", has(Checks.bar(plain(5, 40, 1, 1, staff("s", "row", 2, 0, 4, 3, 2) + men))), 13, 7);
        C.answers("one hand", has(Checks.bar(plain(5, 40, 1, 1, staff("s", "row", 2, 0, 4, 3, 1) + men))), 20, 7);
        C.answers("step 0", has(Checks.bar(plain(5, 40, 1, 1, staff("s", "row", 2, 0, 4, 0, 1) + men))), 2, 1);
        NextAtBar x = at(plain(5, 40, 1, 1, staff("s", "row", 2, 0, 4, 3, 2) + men), 1);
        C.answers("there from then on", new int[] {x.staff(0, 0), x.staff(0, 1), x.staff(0, 2)}, 0, 2, 7);
        C.answers("no PLACES between", has(Checks.bar(plain(5, 40, 1, 1, staff("s", "row", 4, 0, 4, 9, 1) + man("d", "honest", 0, 4, 600, 0)))), 1);
        C.answers("the whole counter", has(Checks.bar("house long 20 bell 600;drink x takes 1 then 1 costs 1" + staff("s", "row", 19, 0, 19, 9, 1)
            + man("d", "honest", 0, 0, 600, 0))), 172);
        C.answers("from off his stretch", has(Checks.bar(plain(5, 40, 1, 1, staff("s", "row", 0, 3, 4, 1, 1) + man("d", "honest", 0, 4, 600, 0)))), 5);
    }

    private static void timeOfGlasses() {
        C.sentence("TIME: of each DRINK so long as it takes, and for each further glass so long as then");
        String base = HOUSE + ALE + GIN + ";staff s row at 0 from 0 to 0 step 0 hands 2;staff t row at 1 from 1 to 1 step 0 hands 1";
        NextAtBar x = Checks.bar(base + man("a", "honest", 0, 0, 600, 0, "ale 1") + man("b", "honest", 0, 2, 600, 0, "ale 2")
            + man("c", "honest", 0, 2, 600, 0, "ale 9") + man("d", "honest", 0, 2, 600, 0, "gin 9") + man("e", "honest", 0, 2, 600, 0, "gin 2,ale 3")
            + man("f", "honest", 1, 0, 600, 0, "gin 1") + man("g", "honest", 1, 1, 600, 0, "ale 1,gin 1"));
        C.answers("nothing before", new int[] {x.time(0, 0), x.time(0, 1), x.time(0, 2), x.time(0, 3), x.time(0, 4), x.time(0, 6)}, 4, 5, 12, 6, 12, 10);
        C.sentence("TIME: if that DRINK was in the order that he began with last, the first glass, too, takes then");
        x.pass(1);
        C.answers("behind ale", new int[] {x.time(0, 0), x.time(0, 1), x.time(0, 2), x.time(0, 3), x.time(0, 4), x.time(0, 6)}, 1, 2, 9, 6, 9, 7);
        C.answers("another one of the staff", new int[] {x.time(1, 0), x.time(1, 6)}, 4, 10);
        x.pass(1);
        // Begun with last, not done last: the ale is at hand no more behind the gin.
        C.answers("behind gin", new int[] {x.time(0, 0), x.time(0, 1), x.time(0, 3), x.time(0, 4), x.time(0, 6)}, 4, 5, 0, 6, 4);
        C.answers("behind both", new int[] {x.time(1, 0), x.time(1, 3), x.time(1, 4), x.time(1, 6)}, 1, 0, 3, 1);
        C.answers("done", new int[] {x.has(0), x.has(5), x.has(6)}, 4, 7, 11);
    }

    // ---- who is next

    /** Who is begun with one by one, all of them waiting from second 0 on. */
    private static void order(String rule, int at, int from, int to, String people, int... want) {
        NextAtBar x = Checks.bar(plain(6, 99, 5, 5, staff("s", rule, at, from, to)) + people);
        int[] got = new int[want.length + 1];
        for (int i = 0; i < got.length; i++) {
            got[i] = x.served(i);
        }
        int[] all = Arrays.copyOf(want, want.length + 1);
        all[want.length] = NONE;
        C.answers(rule + " at " + at + " from " + from + " to " + to, got, all);
    }

    private static String standing(int... places) {
        StringBuilder b = new StringBuilder();
        for (int i = 0; i < places.length; i++) {
            b.append(man("p" + (char) ('a' + i), "honest", 0, places[i], 600, 0));
        }
        return b.toString();
    }

    private static void row() {
        C.sentence("row: the first PLACE from his on to the right, then from his STRETCH's first one on");
        order("row", 2, 0, 5, standing(0, 1, 2, 3, 5), 2, 3, 4, 0, 1);
        order("row", 5, 0, 5, standing(4, 0, 5), 2, 1, 0);
        order("row", 0, 0, 5, standing(5, 0, 1), 1, 2, 0);
        // He stands to the right, or to the left, of his stretch.
        order("row", 5, 1, 3, standing(3, 2, 1, 4, 0), 2, 1, 0);
        order("row", 0, 2, 4, standing(4, 3, 2, 1, 5), 2, 1, 0);
        // Nobody to the right of him on his stretch, but off it.
        order("row", 3, 0, 3, standing(1, 0, 5, 4), 1, 0);
        order("row", 4, 4, 4, standing(4, 4, 4), 0, 1, 2);
    }

    private static void near() {
        C.sentence("near: the nearest PLACE, of two the left one");
        order("near", 3, 0, 5, standing(4, 2), 1, 0);
        order("near", 2, 0, 5, standing(5, 0, 3, 1, 2), 4, 3, 1, 2, 0);
        order("near", 3, 0, 5, standing(5, 1), 1, 0);
        order("near", 3, 0, 5, standing(1, 4), 1, 0);
        order("near", 3, 0, 5, standing(5, 2), 1, 0);
        order("near", 5, 0, 2, standing(0, 1, 2), 2, 1, 0);
        order("near", 0, 3, 5, standing(5, 4, 3), 2, 1, 0);
        // As far off to both sides, left goes ahead of who came first, too.
        order("near", 1, 0, 5, man("a", "honest", 0, 1, 600, 0) + man("b", "honest", 1, 2, 600, 0) + man("c", "honest", 2, 0, 600, 0), 0, 2, 1);
    }

    private static void eye() {
        C.sentence("eye: the greatest LOOK");
        order("eye", 0, 0, 5, man("a", "honest", 0, 0, 600, 0) + man("b", "honest", 0, 5, 600, 99) + man("c", "liar 99", 0, 0, 600, 98)
            + man("d", "regular", 0, 0, 600, 1), 1, 2, 3, 0);
    }

    private static void asked() {
        C.sentence("asked: who SAYS the least second (a liar so many seconds less, one who is polite so many more)");
        String z = man("z", "honest", 0, 0, 600, 0);
        order("asked", 0, 0, 5, z + man("a", "honest", 1, 0, 600, 99) + man("b", "liar 1", 3, 0, 600, 0) + man("c", "liar 3", 3, 0, 600, 0)
            + man("d", "polite 1", 1, 0, 600, 0), 0, 3, 1, 4, 2);
        // Of like ones who came first: b and d both say 2.
        NextAtBar x = Checks.bar(plain(6, 99, 5, 5, staff("s", "asked", 0, 0, 5)) + z + man("a", "honest", 2, 0, 600, 0) + man("b", "liar 99", 40, 0, 600, 0)
            + man("c", "polite 99", 99, 0, 600, 0) + man("d", "regular", 7, 0, 600, 0));
        C.answers("says", new int[] {x.person(0, 3), x.person(1, 3), x.person(2, 3), x.person(3, 3), x.person(4, 3)}, 0, 2, -59, 198, 7);
        C.answers("told", new int[] {x.told(2, 1), x.told(3, 1), x.told(4, 1)}, 99, 99, 0);
    }

    private static void regular() {
        C.sentence("regular: regulars ahead of others");
        order("regular", 0, 0, 5, man("a", "honest", 0, 0, 600, 99) + man("b", "liar 99", 0, 0, 600, 0) + man("c", "polite 9", 0, 0, 600, 0)
            + man("d", "regular", 0, 5, 600, 0) + man("e", "regular", 0, 0, 600, 99), 3, 4, 0, 1, 2);
        order("regular", 0, 0, 5, man("a", "honest", 0, 0, 600, 0) + man("b", "honest", 1, 0, 600, 0) + man("c", "regular", 4, 0, 600, 0)
            + man("d", "regular", 3, 0, 600, 0), 0, 3, 2, 1);
    }

    private static void ofLikeOnes() {
        C.sentence("of like ones who came first, of these the least number");
        String z = man("z", "honest", 0, 2, 600, 5);
        for (String rule : Model.RULES) {
            if (!rule.equals("asked")) {
                order(rule, 2, 0, 5, z + man("a", "honest", 3, 2, 600, 5) + man("b", "honest", 2, 2, 600, 5) + man("c", "honest", 1, 2, 600, 5)
                    + man("d", "honest", 1, 2, 600, 5), 0, 3, 4, 2, 1);
            }
            order(rule, 2, 0, 5, standing(2, 2, 2, 2), 0, 1, 2, 3);
        }
        order("asked", 2, 0, 5, z + man("a", "liar 2", 4, 2, 600, 5) + man("b", "honest", 2, 2, 600, 5) + man("c", "polite 1", 1, 2, 600, 5)
            + man("d", "polite 1", 1, 2, 600, 5), 0, 3, 4, 2, 1);
    }

    // ---- an evening

    private static void upToTheBell() {
        C.sentence("SECONDS from NOW on up to the bell's (that one, too); what is begun is done, even if later");
        String z = plain(1, 10, 5, 5, FAR);
        C.answers("comes with the bell", has(Checks.bar(z + man("a", "honest", 10, 0, 600, 0))), 15);
        C.answers("free with the bell", has(Checks.bar(z + man("z", "honest", 5, 0, 600, 0) + man("b", "honest", 7, 0, 600, 0))), 10, 15);
        NextAtBar late = Checks.bar(z + man("z", "honest", 6, 0, 600, 0) + man("b", "honest", 7, 0, 600, 0));
        C.answers("free behind the bell", has(late), 11, -2);
        C.answers("fate then", fates(late), 0, 3);
        C.answers("waits then", waits(late), 0, 3);
        C.answers("gives up with the bell", fates(Checks.bar(plain(2, 10, 5, 5, FAR) + man("a", "honest", 3, 1, 7, 0) + man("b", "honest", 3, 1, 8, 0))), 2, 3);
        NextAtBar over = at(z + man("z", "honest", 6, 0, 600, 0) + man("b", "honest", 7, 0, 600, 0), 11);
        C.answers("no more seconds", fates(over), 0, 3);
        C.answers("as they were", new int[] {over.waits(1), over.sum(0), over.sum(2), over.sum(3), over.has(0)}, 3, 1, 1, 3, 11);
    }

    private static String fiveFates() {
        return plain(2, 20, 5, 5, FAR + man("a", "honest", 2, 0, 600, 0) + man("b", "honest", 2, 1, 600, 0) + man("c", "honest", 2, 1, 4, 0)
            + man("d", "honest", 2, 1, 600, 0) + man("e", "honest", 2, 1, 600, 0) + man("f", "honest", 4, 0, 600, 0) + ";shelf b ready 9");
    }

    private static void fate() {
        C.sentence("FATE: 0 HAS IT by staff, 1 by a shelf, 2 GAVE UP, 3 still WAITING, 4 he left");
        NextAtBar x = at(fiveFates(), 3);
        x.leaves(4);
        C.answers("from 3", fates(x), 0, 1, 2, 3, 4, 0);
        x.pass(18);
        C.answers("from 21", fates(x), 0, 1, 2, 3, 4, 0);
        C.answers("whom", new int[] {x.whom(0), x.whom(1), x.whom(2), x.whom(3), x.whom(4), x.whom(5)}, 0, -2, -2, -2, -2, 0);
        C.answers("has", has(x), 7, 9, -2, -2, -2, 12);
    }

    private static void waitFromComing() {
        C.sentence("WAIT: from coming till he is begun with, HAS IT by a shelf, GAVE UP, or the bell; -2 if he left");
        NextAtBar x = at(fiveFates(), 3);
        C.due("not left yet", x.waits(4), 18);
        x.leaves(4);
        C.answers("from 3", waits(x), 0, 7, 4, 18, -2, 3);
        x.pass(18);
        C.answers("from 21", waits(x), 0, 7, 4, 18, -2, 3);
        C.due("all together, but who left", x.sum(3), 32);
    }

    private static void passedBehind() {
        C.sentence("PASSED: all who came behind him and were begun with ahead of him");
        // z till 5; by what they say b, c, then a.
        String text = plain(1, 40, 5, 5, staff("s", "asked", 0, 0, 0)) + man("z", "honest", 0, 0, 600, 0) + man("a", "honest", 1, 0, 600, 0)
            + man("b", "liar 9", 2, 0, 600, 0) + man("c", "liar 9", 3, 0, 600, 0);
        C.answers("passed", passed(Checks.bar(text)), 0, 12, 0, 0);
        C.answers("pushed", pushed(Checks.bar(text)), 0, 0, 2, 2);
        // c, who came behind b, ahead of him: both passed a.
        String other = text.replace("c liar 9", "c liar 99");
        C.answers("passed twice", passed(Checks.bar(other)), 0, 12, 8, 0);
        C.answers("pushed twice", pushed(Checks.bar(other)), 0, 0, 2, 6);
    }

    private static void passedAtOnce() {
        C.sentence("PASSED: or at once, with a greater number");
        String head = plain(1, 40, 5, 5, staff("s", "eye", 0, 0, 0));
        NextAtBar x = Checks.bar(head + man("a", "honest", 3, 0, 600, 1) + man("b", "honest", 3, 0, 600, 9));
        C.answers("the greater number first", passed(x), 2, 0);
        C.answers("pushed", pushed(x), 0, 1);
        NextAtBar y = Checks.bar(head + man("a", "honest", 3, 0, 600, 9) + man("b", "honest", 3, 0, 600, 1));
        C.answers("the less one first", passed(y), 0, 0);
        C.answers("nobody pushed", pushed(y), 0, 0);
        // Begun with at the same second, one ahead of the other.
        NextAtBar z = Checks.bar(plain(1, 40, 5, 5, staff("s", "eye", 0, 0, 0) + staff("t", "row", 0, 0, 0)) + man("a", "honest", 3, 0, 600, 1)
            + man("b", "honest", 3, 0, 600, 9));
        C.answers("at the same second", new int[] {z.passed(0), z.passed(1), z.pushed(0), z.pushed(1), z.waits(0), z.waits(1), z.sum(4)}, 2, 0, 0, 1, 0, 0, 1);
    }

    private static void passedWhileWaiting() {
        C.sentence("PASSED: while he was WAITING; PUSHED: and were WAITING when he was begun with");
        // z till 5; a (came at 1, looks 1) and b (came at 2, looks 9), who is begun with at 5.
        String head = plain(1, 40, 5, 5, staff("s", "eye", 0, 0, 0)) + man("z", "honest", 0, 0, 600, 0);
        String b = man("b", "honest", 2, 0, 600, 9);
        C.answers("gives up ahead of it, at 5", passed(Checks.bar(head + man("a", "honest", 1, 0, 4, 1) + b)), 0, 0, 0);
        C.answers("gives up behind it, at 6", passed(Checks.bar(head + man("a", "honest", 1, 0, 5, 1) + b)), 0, 4, 0);
        C.answers("pushed likewise", pushed(Checks.bar(head + man("a", "honest", 1, 0, 5, 1) + b)), 0, 0, 2);
        C.answers("has a shelf ahead of it, at 5", passed(Checks.bar(head + man("a", "honest", 1, 0, 600, 1) + b + ";shelf a ready 5")), 0, 0, 0);
        C.answers("has a shelf behind it, at 6", passed(Checks.bar(head + man("a", "honest", 1, 0, 600, 1) + b + ";shelf a ready 6")), 0, 4, 0);
        C.answers("by a shelf nobody is begun with", passed(Checks.bar(head + man("a", "honest", 1, 0, 600, 1) + b + ";shelf b ready 3")), 0, 0, 0);
        NextAtBar x = at(head + man("a", "honest", 1, 0, 600, 1) + b, 5);
        x.leaves(1);
        C.answers("left ahead of it", passed(x), 0, 0, 0);
        NextAtBar y = at(head + man("a", "honest", 1, 0, 600, 1) + b, 6);
        y.leaves(1);
        C.answers("left behind it", passed(y), 0, 4, 0);
        C.answers("left behind it, pushed", pushed(y), 0, 0, 2);
        C.answers("who hasn't come is not passed", passed(Checks.bar(head + b + man("a", "honest", 6, 0, 600, 99))), 0, 0, 0);
        NextAtBar still = Checks.bar(plain(2, 9, 5, 5, FAR) + man("a", "honest", 0, 1, 600, 0) + man("b", "honest", 1, 0, 600, 0));
        C.answers("who is still waiting is passed", passed(still), 2, 0);
        C.answers("who is still waiting is pushed", pushed(still), 0, 1);
    }

    private static void outOfTurn() {
        C.sentence("OUT OF TURN: all PASSED together");
        // Ten by looks, the last one first: each is passed by all behind him.
        StringBuilder men = new StringBuilder();
        for (int i = 0; i < 10; i++) {
            men.append(man("p" + (char) ('a' + i), "honest", 0, 0, 600, i));
        }
        NextAtBar x = Checks.bar(plain(1, 40, 1, 1, staff("s", "eye", 0, 0, 0)) + men);
        C.answers("all", new int[] {x.sum(4), x.passed(0), x.passed(8), x.passed(9), x.pushed(9), x.pushed(1), x.pushed(0)}, 45, 1022, 512, 0, 511, 1, 0);
        C.due("in the first second", x.bell(0, 4), 9);
    }

    private static void sums() {
        C.sentence("sum: 0 HAVE IT (by staff and shelves) .. 5 what those who HAVE IT pay together");
        NextAtBar x = Checks.bar(HOUSE + ALE + GIN + FAR + man("a", "honest", 0, 0, 600, 0, "ale 2,gin 1") + man("b", "honest", 0, 1, 600, 0, "gin 3")
            + man("c", "honest", 0, 1, 600, 0, "ale 9") + man("d", "honest", 0, 1, 3, 0, "ale 9") + ";shelf b ready 7");
        C.answers("sums", new int[] {x.sum(0), x.sum(1), x.sum(2), x.sum(3), x.sum(4), x.sum(5), x.trouble()}, 2, 1, 1, 50, 0, 34, 0);
        C.answers("none such", new int[] {x.sum(-1), x.trouble(), x.sum(6), x.trouble()}, NONE, 1, NONE, 1);
    }

    private static void servedInRow() {
        C.sentence("served: those begun with ahead of NOW first, by seconds, then by staff");
        // s begins with a at 0 and c at 5; t with b at 0 and d at 5, ahead of numbers by looks.
        String text = plain(2, 40, 5, 5, staff("s", "row", 0, 0, 0) + staff("t", "row", 1, 1, 1)) + man("b", "honest", 0, 1, 600, 0) + man("a", "honest", 0, 0, 600, 0)
            + man("d", "honest", 1, 1, 600, 0) + man("c", "honest", 1, 0, 600, 0) + man("e", "honest", 1, 1, 600, 0) + ";shelf e ready 3";
        for (int now = 0; now <= 41; now += now < 7 ? 1 : 17) {
            NextAtBar x = at(text, now);
            C.answers("from " + now, new int[] {x.served(0), x.served(1), x.served(2), x.served(3), x.served(4), x.trouble(), x.served(-1)}, 1, 0, 3, 2, NONE, 1, NONE);
        }
        NextAtBar none = Checks.bar(plain(2, 40, 5, 5, FAR) + man("a", "honest", 0, 1, 600, 0));
        C.answers("none", new int[] {none.served(0), none.trouble()}, NONE, 1);
        NextAtBar ten = Checks.bar(plain(1, 40, 1, 1, FAR) + times(10, ";person p", " honest comes 0 at 0 patience 600 look 0 wants x 1"));
        C.answers("ten", new int[] {ten.served(9), ten.trouble(), ten.served(10), ten.trouble()}, 9, 0, NONE, 1);
    }

    // ---- as it stands

    private static void person() {
        C.sentence("person: 0 what he does .. 5 when he HAS IT (-2)");
        NextAtBar x = at(fiveFates(), 6);
        C.answers("at 6", states(x), 2, 1, 1, 1, 1, 1);
        C.answers("begun with", new int[] {x.person(0, 4), x.person(0, 5)}, 2, 7);
        x.leaves(4);
        x.pass(1);
        C.answers("at 7", states(x), 3, 1, 4, 1, 5, 1);
        C.answers("done", new int[] {x.person(0, 4), x.person(0, 5)}, 2, 7);
        C.answers("waiting", new int[] {x.person(1, 4), x.person(1, 5), x.person(5, 4), x.person(5, 5)}, -2, -2, -2, -2);
        C.answers("gave up, left", new int[] {x.person(2, 4), x.person(2, 5), x.person(4, 4), x.person(4, 5)}, -2, -2, -2, -2);
        x.pass(3);
        C.answers("by a shelf", new int[] {x.person(1, 0), x.person(1, 4), x.person(1, 5), x.trouble()}, 3, -2, 9, 0);
        NextAtBar y = Checks.bar(fiveFates());
        C.answers("hasn't come", new int[] {y.person(0, 0), y.person(0, 1), y.person(0, 2), y.person(0, 3), y.person(0, 4), y.person(0, 5)}, 0, 0, 0, 2, -2, -2);
        C.answers("none such", new int[] {y.person(-1, 0), y.trouble(), y.person(6, 0), y.trouble(), y.person(5, 5), y.trouble(), y.person(0, -1), y.trouble(),
            y.person(0, 6), y.trouble()}, NONE, 1, NONE, 1, -2, 0, NONE, 1, NONE, 1);
    }

    private static void staffNow() {
        C.sentence("staff: 1 how many hands are busy, 2 when his first hand to be free is so (NOW, if one is)");
        NextAtBar x = Checks.bar(plain(1, 40, 6, 4, staff("s", "row", 0, 0, 0, 0, 2) + staff("t", "row", 0, 0, 0, 0, 1)
            + times(3, ";person p", " honest comes 0 at 0 patience 600 look 0 wants x 1")));
        C.answers("NOW 0", new int[] {x.staff(0, 1), x.staff(0, 2), x.staff(1, 1), x.staff(1, 2)}, 0, 0, 0, 0);
        x.pass(1);
        C.answers("NOW 1", new int[] {x.staff(0, 1), x.staff(0, 2), x.staff(1, 1), x.staff(1, 2)}, 2, 4, 1, 6);
        x.pass(2);
        C.answers("NOW 3", new int[] {x.staff(0, 1), x.staff(0, 2), x.staff(1, 1), x.staff(1, 2)}, 2, 4, 1, 6);
        x.pass(1);
        C.answers("NOW 4", new int[] {x.staff(0, 1), x.staff(0, 2), x.staff(1, 1), x.staff(1, 2)}, 1, 4, 1, 6);
        x.pass(1);
        C.answers("NOW 5", new int[] {x.staff(0, 1), x.staff(0, 2), x.staff(1, 1), x.staff(1, 2)}, 1, 5, 1, 6);
        x.pass(1);
        C.answers("NOW 6", new int[] {x.staff(0, 1), x.staff(0, 2), x.staff(1, 1), x.staff(1, 2)}, 0, 6, 0, 6);
        C.answers("none such", new int[] {x.staff(-1, 0), x.trouble(), x.staff(2, 0), x.trouble(), x.staff(1, 0), x.trouble(), x.staff(0, -1), x.trouble(),
            x.staff(0, 3), x.trouble()}, NONE, 1, NONE, 1, 0, 0, NONE, 1, NONE, 1);
    }

    private static void elbows() {
        C.sentence("elbows: how many are WAITING at a PLACE; NONE: 1");
        NextAtBar x = at(fiveFates(), 3);
        C.answers("at each", new int[] {x.elbows(0), x.trouble(), x.elbows(1), x.trouble(), x.elbows(2), x.trouble(), x.elbows(-1), x.trouble()},
            0, 0, 4, 0, NONE, 1, NONE, 1);
        x.moves(1, 0);
        C.answers("moved", new int[] {x.elbows(0), x.elbows(1)}, 1, 3);
        x.leaves(3);
        C.answers("left", new int[] {x.elbows(0), x.elbows(1)}, 1, 2);
        NextAtBar one = Checks.bar("house long 1 bell 40" + ALE + FAR + man("a", "honest", 0, 0, 600, 0, "ale 1"));
        C.answers("one place", new int[] {one.elbows(0), one.elbows(1), one.waiting()}, 0, NONE, 0);
        NextAtBar none = new NextAtBar();
        C.answers("no house", new int[] {none.elbows(0), none.trouble(), none.waiting(), none.trouble()}, NONE, 1, NONE, 1);
        NextAtBar ten = at(plain(2, 40, 5, 5, FAR + times(10, ";person p", " honest comes 0 at 1 patience 600 look 0 wants x 1")), 1);
        C.answers("ten", new int[] {ten.elbows(0), ten.elbows(1), ten.waiting(), ten.led(9)}, 0, 10, 10, 9);
    }

    private static void next() {
        C.sentence("next: with whom he would begin NOW, had he a hand free; -2");
        String text = plain(2, 20, 5, 5, staff("s", "asked", 0, 0, 0) + staff("t", "asked", 1, 1, 1) + man("a", "honest", 0, 0, 600, 0)
            + man("b", "honest", 1, 0, 600, 0) + man("c", "liar 9", 2, 0, 600, 0));
        NextAtBar x = Checks.bar(text);
        C.answers("who comes at 0 isn't there", new int[] {x.next(0), x.trouble()}, -2, 0);
        x.pass(1);
        C.answers("nobody waits", new int[] {x.next(0), x.next(1)}, -2, -2);
        x.pass(1);
        C.answers("no hand free", new int[] {x.next(0), x.staff(0, 1), x.next(1)}, 1, 1, -2);
        x.pass(1);
        C.answers("the liar", new int[] {x.next(0), x.next(1), x.next(2), x.trouble(), x.next(-1), x.trouble()}, 2, -2, NONE, 1, NONE, 1);
    }

    private static void refusals() {
        C.sentence("time, costs, fate, waits, whom, has, passed, pushed: NONE: 1");
        NextAtBar x = Checks.bar(fiveFates());
        for (int p : new int[] {-1, 6, Integer.MIN_VALUE, Integer.MAX_VALUE}) {
            C.answers("person " + p, new int[] {x.time(0, p), x.trouble(), x.costs(p), x.trouble(), x.fate(p), x.trouble(), x.waits(p), x.trouble(), x.whom(p),
                x.trouble(), x.has(p), x.trouble(), x.passed(p), x.trouble(), x.pushed(p), x.trouble()},
                NONE, 1, NONE, 1, NONE, 1, NONE, 1, NONE, 1, NONE, 1, NONE, 1, NONE, 1);
            C.answers("staff " + p, new int[] {x.time(p, 0), x.trouble(), x.next(p), x.trouble()}, NONE, 1, NONE, 1);
        }
        C.answers("the last", new int[] {x.time(0, 5), x.trouble(), x.costs(5), x.trouble(), x.fate(5), x.trouble(), x.waits(5), x.trouble(), x.whom(5),
            x.trouble(), x.has(5), x.trouble(), x.passed(5), x.trouble(), x.pushed(5), x.trouble()}, 5, 0, 1, 0, 0, 0, 3, 0, 0, 0, 12, 0, 0, 0, 26, 0);
        C.answers("one beyond the staff", new int[] {x.time(1, 0), x.trouble(), x.next(1), x.trouble()}, NONE, 1, NONE, 1);
    }

    private static void looking() {
        C.sentence("an evening: to ask for it changes nothing");
        NextAtBar x = at(fiveFates(), 3);
        int[] before = states(x);
        fates(x);
        waits(x);
        x.sum(3);
        x.served(0);
        C.answers("states", states(x), before);
        C.answers("sizes", new int[] {x.size(7), x.size(8), x.waiting(), x.staff(0, 2)}, 3, 1, 4, 7);
    }

    public static void main(String[] args) {
        whoComes();
        shelfAtOrAhead();
        shelfAheadOfStaff();
        shelfForWhoIsWaiting();
        patienceOrMore();
        givesUpAheadOfStaff();
        shelfAheadOfGivingUp();
        staffByNumbers();
        asLongAsAHandIsFree();
        onHisStretch();
        doneAt();
        noTimeAtAll();
        steps();
        timeOfGlasses();
        row();
        near();
        eye();
        asked();
        regular();
        ofLikeOnes();
        upToTheBell();
        fate();
        waitFromComing();
        passedBehind();
        passedAtOnce();
        passedWhileWaiting();
        outOfTurn();
        sums();
        servedInRow();
        person();
        staffNow();
        elbows();
        next();
        refusals();
        looking();
        C.end();
    }
}
