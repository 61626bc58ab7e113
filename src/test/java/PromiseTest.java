/** Each promise by answers that were found by hand from the document. */
public final class PromiseTest extends Bars {
    private static final Checks C = new Checks();

    private static void newObject() {
        NextAtBar x = new NextAtBar();
        for (int what = 0; what <= 10; what++) {
            C.due("1 size " + what, x.size(what), 0);
        }
        C.due("1 trouble", x.trouble(), 0);
        C.due("1 fault", x.fault(), 0);
        C.due("1 where", x.where(), NONE);
        C.due("1 waiting", x.waiting(), NONE);
        C.due("1 trouble of waiting", x.trouble(), 1);
        C.due("1 NONE", NextAtBar.NONE, -1);
        noHouse(x);
    }

    private static void noHouse(NextAtBar x) {
        int[] none = {x.person(0, 0), x.staff(0, 0), x.elbows(0), x.waiting(), x.next(0), x.time(0, 0), x.costs(0),
            x.fate(0), x.waits(0), x.whom(0), x.has(0), x.passed(0), x.pushed(0), x.sum(0), x.served(0),
            x.by(0, false, 0), x.bestRule(true), x.bestPlace(0), x.bestManner(0), x.cut(), x.cutWaits(),
            x.leastLook(0), x.bell(0, 0), x.waitingAt(0), x.honesty(0, true), x.rest(0), x.rests(), x.row(0, 0),
            x.rowSum(0), x.liars(), x.surely(0, 1), x.so(), x.pass(1), x.calls(0), x.image(), x.told(0, 0),
            x.wants(0, 0)};
        for (int i = 0; i < none.length; i++) {
            C.due("no house, call " + i, none[i], NONE);
        }
        C.due("no house trouble", x.trouble(), 1);
        C.due("no house hand", x.hand(), -100);
        C.due("no house beforehand", x.beforehand(0), -1000);
        C.due("no house letCosts", x.letCosts(0, 1), -1000);
        C.due("no house moves", x.moves(0, 0) || x.lets(0, 1) || x.leaves(0) || x.back(0), false);
        C.due("no house trouble of back", x.trouble(), 1);
        C.due("no house undo", x.undo(), false);
        C.due("no house trouble of undo", x.trouble(), 6);
        // 1 stands ahead of 2 and 3.
        C.due("no house pass", x.pass(0), NONE);
        C.due("no house pass trouble", x.trouble(), 1);
        C.due("no house bell", x.bell(-1, 0), NONE);
        C.due("no house bell trouble", x.trouble(), 1);
    }

    private static void feeding() {
        NextAtBar x = new NextAtBar();
        x.undo();
        for (int i = 1; i <= 50; i++) {
            C.due("2 feed", x.feed(0x20202020, 0x20202020, 0x20202020, 0x20202020, 0x20202020), 20 * i);
        }
        C.due("2 feed too much", x.feed(0, 0, 0, 0, 0), NONE);
        C.due("2 size", x.size(10), 1000);
        C.due("2 feed is none that may be refused", x.trouble(), 6);
        // The highest byte first: "    " and "a123", of which the a is no line's word.
        NextAtBar y = new NextAtBar();
        y.feed(0x20202020, 0x61313233, 0x20202020, 0x20202020, 0x20202020);
        y.house(20);
        C.due("2 highest first", y.where(), 4);
    }

    private static void housing() {
        NextAtBar x = new NextAtBar();
        Checks.feed(x, EVENING + " and more");
        int tape = x.size(10);
        C.due("3 negative", x.house(-1), NONE);
        C.due("3 trouble of a number", x.trouble(), 2);
        C.due("3 too many", x.house(tape + 1), NONE);
        C.due("3 trouble of a number again", x.trouble(), 2);
        C.due("3 the tape stays", x.size(10), tape);
        C.due("3 people", x.house(EVENING.length()), 5);
        C.due("3 trouble", x.trouble(), 0);
        C.due("3 the tape is empty", x.size(10), 0);
        x.pass(3);
        x.image();
        Checks.feed(x, "house long 3");
        C.due("3 faulty", x.house(12), NONE);
        C.due("3 trouble of a fault", x.trouble(), 4);
        C.due("3 the tape is empty behind a fault", x.size(10), 0);
        C.due("3 the house stays", x.size(4), 5);
        C.due("3 now stays", x.size(7), 3);
        C.due("3 undo stays", x.size(8), 1);
        C.due("3 images stay", x.size(9), 1);
        C.due("3 places stay", x.size(0), 5);
        C.due("3 another one", Checks.house(x, START), 1);
        C.due("3 now", x.size(7), 0);
        C.due("3 undo", x.size(8), 0);
        C.due("3 images", x.size(9), 0);
        C.due("3 nobody there", x.person(0, 0), 0);
        C.due("3 tellings are gone", x.size(6), 0);
        C.due("3 shelves are gone", x.size(5), 0);
        C.due("3 a shelf is gone", x.told(0, 6), -2);
        C.due("3 no bytes", x.house(0), NONE);
        C.due("3 no bytes are no house", x.fault() * 100 + x.where(), 100);
    }

    private static void faults() {
        NextAtBar x = Checks.bar(START);
        C.due("4 none", x.fault(), 0);
        C.due("5 none", x.where(), NONE);
        Checks.house(x, HOUSE);
        C.due("4 lacks", x.fault(), 6);
        C.due("5 at the end", x.where(), HOUSE.length());
        x.feed(0, 0, 0, 0, 0);
        x.size(0);
        C.due("5 stays behind calls that can't be refused", x.where(), HOUSE.length());
        x.house(99);
        C.due("4 stays behind a 2", x.fault(), 6);
        C.due("5 not behind a 2", x.where(), NONE);
        x.house(20);
        C.due("5 of bytes that begin nothing", x.where(), 0);
        Checks.house(x, HOUSE);
        x.waiting();
        C.due("4 stays behind a call", x.fault(), 6);
        C.due("5 not behind a call", x.where(), NONE);
        Checks.house(x, START);
        C.due("4 gone", x.fault(), 0);
        formFaults();
        nameFaults();
        boundFaults();
        manyFaults();
    }

    private static void formFaults() {
        C.faultIs("", 1, 0);
        C.faultIs("   ", 1, 3);
        C.faultIs("ale", 1, 0);
        C.faultIs("5", 1, 0);
        C.faultIs(";", 1, 0);
        C.faultIs("House long 5 bell 40", 1, 0);
        C.faultIs("\u00ff", 1, 0);
        C.faultIs("householder", 1, 0);
        C.faultIs("house longest 5", 1, 6);
        C.behind("house long ", "0005 bell 40", 1);
        C.behind("house ", "5", 1);
        C.behind("house long 5 bell", "", 1);
        C.behind("house long 5 bell  ", ";", 1);
        C.behind(START + ",", "", 1);
    }

    private static void nameFaults() {
        C.behind(START + ";person p honest comes 0 at 0 patience 0 look 0 wants ", "rum 1", 2);
        C.behind(START + ";person p honest comes 0 at 0 patience 0 look 0 wants ", "sam 1", 2);
        C.behind(START + ";person p honest comes 0 at 0 patience 0 look 0 wants ", "p 1", 2);
        C.behind(START + ";person p honest comes 0 at 0 patience 0 look 0 wants ", "staff 1", 1);
        C.behind(START + ";shelf ", "sam ready 1", 2);
        C.behind(START + ";shelf ", "bob ready 1", 2);
        C.behind(START + ";says ", "ale ann before ann", 2);
        C.behind(START + ";says ann ", "ale before ann", 2);
        C.behind(START + ";says ann ann before ", "ale", 2);
        C.behind(START + ";says ann ann before ", "ann", 3);
        C.behind(START + ";shelf ann ready 3;shelf ", "ann ready 3", 3);
        C.behind(START + ";drink ", "ale", 3);
        C.behind(START + ";drink ", "sam", 3);
        C.behind(START + ";staff ", "ann", 3);
        C.behind(START + ";person ", "ale", 3);
        C.behind(START + ";person ", "says", 1);
        C.behind(START + ";person ", "7", 1);
        C.behind(START + ";", HOUSE, 3);
    }

    private static void boundFaults() {
        C.behind("house long ", "0", 4);
        C.behind("house long ", "21", 4);
        C.behind("house long 20 bell ", "0", 4);
        C.behind("house long 20 bell ", "601", 4);
        C.behind(HOUSE + ";drink a takes ", "0", 4);
        C.behind(HOUSE + ";drink a takes ", "91", 4);
        C.behind(HOUSE + ";drink a takes 90 then ", "91", 4);
        C.behind(HOUSE + ";drink a takes 90 then 90 costs ", "100", 4);
        C.behind(HOUSE + ";staff s row at ", "5", 4);
        C.behind(HOUSE + ";staff s row at 4 from ", "5", 4);
        C.behind(HOUSE + ";staff s row at 4 from 3 to ", "5", 4);
        C.behind(HOUSE + ";staff s row at 4 from 3 to ", "2", 4);
        C.behind(HOUSE + ";staff s row at 4 from 3 to 3 step ", "10", 4);
        C.behind(HOUSE + ";staff s row at 4 from 3 to 3 step 9 hands ", "0", 4);
        C.behind(HOUSE + ";staff s row at 4 from 3 to 3 step 9 hands ", "3", 4);
        C.behind(START + ";person p liar ", "0", 4);
        C.behind(START + ";person p polite ", "100", 4);
        C.behind(START + ";person p liar ", "comes", 1);
        C.behind(START + ";person p honest ", "1", 1);
        C.behind(START + ";person p regular comes ", "41", 4);
        C.behind(START + ";person p regular comes 40 at ", "5", 4);
        C.behind(START + ";person p regular comes 40 at 4 patience ", "601", 4);
        C.behind(START + ";person p regular comes 40 at 4 patience 600 look ", "100", 4);
        C.behind(START + ";person p regular comes 40 at 4 patience 600 look 99 wants ale ", "0", 4);
        C.behind(START + ";person p regular comes 40 at 4 patience 600 look 99 wants ale ", "10", 4);
        C.behind(START + ";shelf ann ready ", "41", 4);
        Checks.bar("house long 20 bell 600;drink a takes 90 then 90 costs 99;drink b takes 1 then 0 costs 0"
            + ";staff s row at 19 from 19 to 19 step 9 hands 2"
            + ";person abcdefgh liar 99 comes 600 at 19 patience 600 look 99 wants a 9,b 1;shelf abcdefgh ready 600");
        Checks.bar("house long001bell001;drink long takes 1then 0costs 0;staff takes row at 0 from 0 to 0 step 0 hands 1"
            + " ; person liar liar 1 comes 0 at 0 patience 0 look 0 wants long 1;shelf liar ready 0  ");
    }

    private static void manyFaults() {
        String drinks = times(5, ";drink d", " takes 1 then 1 costs 1");
        C.behind(HOUSE + drinks + ";", "drink z", 5);
        String three = times(3, ";staff s", " row at 0 from 0 to 0 step 0 hands 1");
        C.behind(HOUSE + three + ";", "staff z", 5);
        String one = "house long 5 bell 4;drink a takes 1 then 1 costs 1;staff b row at 0 from 0 to 0 step 0 hands 1";
        String ten = times(10, ";person p", " honest comes 0 at 0 patience 0 look 0 wants a 1");
        C.due("3 ten people", Checks.house(new NextAtBar(), one + ten), 10);
        C.behind(one + ten + ";", "person z", 5);
        String eight = START + ";person bob honest comes 0 at 0 patience 0 look 0 wants gin 9" + times(8, ";says ann ann before bob", "")
            .replaceAll("bob.", "bob");
        C.due("52 eight tellings", Checks.bar(eight).size(6), 8);
        C.behind(eight + ";", "says ann", 5);
        String wants = HOUSE + drinks + three + ";person p honest comes 0 at 0 patience 0 look 0 wants da 1,db 1,dc 1";
        C.due("50 three drinks", Checks.bar(wants).wants(0, 2), 1);
        C.behind(wants + ",", "dd 1", 5);
        C.behind(wants + ",", "da 1", 3);
        C.behind(wants + ",", "zz 1", 2);
        C.behind(wants + ",", ";", 1);
        C.behind("", "drink a", 6);
        C.behind("", "says a", 6);
        C.behind("", "staff", 6);
        C.faultIs(HOUSE + ALE + SAM, 6, (HOUSE + ALE + SAM).length());
        C.faultIs(HOUSE + ALE + "  ", 6, (HOUSE + ALE + "  ").length());
        C.faultIs(HOUSE + SAM, 6, (HOUSE + SAM).length());
        C.faultIs(HOUSE + ";", 1, (HOUSE + ";").length());
        C.behind(START + " ", "extra", 1);
        C.behind(START + " ", "ale 1", 1);
        C.behind(START + ",", "ale 1", 3);
        C.behind(START, "!", 1);
        String noStaff = HOUSE + ALE + ANN;
        C.faultIs(noStaff, 6, noStaff.length());
        C.faultIs("a1".repeat(500), 1, 0);
        C.faultIs(";".repeat(1000), 1, 0);
        allNames(drinks, three);
    }

    /** As many names as can be told, the last of them used. */
    private static void allNames(String drinks, String three) {
        String ten = times(10, ";person p", " honest comes 0 at 0 patience 0 look 0 wants de 1");
        String text = HOUSE + drinks + three + ten + ";shelf pj ready 7;says pj pi before pj";
        NextAtBar x = Checks.bar(text);
        C.answers("3 all names", new int[] {x.size(2), x.size(3), x.size(4), x.wants(9, 4), x.told(9, 6), x.so()}, 5, 3, 10, 1, 7, 1);
        C.behind(text + ";shelf ", "pj ready 7", 3);
        // The third house stands where the first one stood: nothing of that one is left.
        Checks.house(x, START);
        Checks.house(x, START);
        C.answers("3 nothing left", new int[] {x.size(2), x.size(3), x.size(4), x.size(5), x.size(6), x.wants(0, 1), x.told(0, 6)},
            2, 1, 1, 0, 0, 0, -2);
    }

    private static void asItStands() {
        NextAtBar x = Checks.bar(EVENING);
        x.pass(6);
        // Now 6: ann has it, bob is begun with, cat, dan and eve wait.
        C.answers("6 state", new int[] {x.person(0, 0), x.person(1, 0), x.person(2, 0), x.person(3, 0)}, 3, 2, 1, 1);
        C.answers("6 bob", new int[] {x.person(1, 1), x.person(1, 2), x.person(1, 3), x.person(1, 4), x.person(1, 5)},
            0, 20, -7, 5, 13);
        C.answers("6 cat", new int[] {x.person(2, 1), x.person(2, 2), x.person(2, 3), x.person(2, 4), x.person(2, 5)},
            4, 30, 4, -2, -2);
        C.answers("6 wrong", new int[] {x.person(5, 0), x.person(-1, 0), x.person(0, 6), x.person(0, -1)},
            NONE, NONE, NONE, NONE);
        C.due("6 trouble", x.trouble(), 1);
        C.answers("7", new int[] {x.staff(0, 0), x.staff(0, 1), x.staff(0, 2), x.staff(1, 0), x.staff(0, 3), x.staff(0, -1)},
            0, 1, 13, NONE, NONE, NONE);
        C.answers("8", new int[] {x.elbows(0), x.elbows(1), x.elbows(2), x.elbows(4), x.elbows(5), x.elbows(-1)},
            0, 1, 1, 1, NONE, NONE);
        C.due("9", x.waiting(), 3);
        C.due("9 trouble", x.trouble(), 0);
        // eve says 2, dan 3, cat 4.
        C.answers("10", new int[] {x.next(0), x.next(1), x.next(-1)}, 4, NONE, NONE);
        // Behind bob's gin: gin takes none, ale all.
        C.answers("11", new int[] {x.time(0, 0), x.time(0, 1), x.time(0, 2), x.time(0, 4), x.time(0, 5), x.time(1, 0)},
            5, 0, 4, 6, NONE, NONE);
        C.answers("12", new int[] {x.costs(0), x.costs(2), x.costs(4), x.costs(5)}, 6, 17, 9, NONE);
        C.answers("51", new int[] {x.led(0), x.led(1), x.led(2)}, 2, 3, 4);
        C.due("51 none such", throwsNone(x, 3) && throwsNone(x, -1), true);
        x.pass(4);
        C.answers("6 later", new int[] {x.person(3, 0), x.person(4, 0), x.person(4, 4), x.person(4, 5)}, 4, 3, -2, 9);
        x.leaves(2);
        C.answers("6 left", new int[] {x.person(2, 0), x.waiting(), x.next(0), x.trouble()}, 5, 0, -2, 0);
    }

    private static void hands() {
        // Both hands begin at 0: a has it at 6, b, behind the same order, at 4.
        NextAtBar x = Checks.bar("house long 2 bell 20;drink x takes 6 then 4 costs 1"
            + ";staff s row at 0 from 0 to 1 step 0 hands 2" + man("a", "honest", 0, 0, 90, 0)
            + man("b", "honest", 0, 0, 90, 0) + man("c", "honest", 0, 0, 90, 0));
        C.answers("7 at first", new int[] {x.staff(0, 1), x.staff(0, 2)}, 0, 0);
        x.pass(1);
        C.answers("7 both busy", new int[] {x.staff(0, 1), x.staff(0, 2), x.waiting()}, 2, 4, 1);
        x.pass(3);
        C.answers("7 one free", new int[] {x.size(7), x.staff(0, 1), x.staff(0, 2), x.next(0)}, 4, 1, 4, 2);
        x.pass(1);
        C.answers("7 busy again", new int[] {x.staff(0, 1), x.staff(0, 2), x.has(2)}, 2, 6, 8);
        // An order of no time leaves the hand free in that very second.
        NextAtBar y = Checks.bar(plain(1, 9, 3, 0, staff("s", "row", 0, 0, 0)) + man("a", "honest", 0, 0, 90, 0)
            + man("b", "honest", 1, 0, 90, 0) + man("c", "honest", 1, 0, 90, 0));
        C.answers("II no time", new int[] {y.has(0), y.has(1), y.has(2), y.waits(1), y.waits(2)}, 3, 3, 3, 2, 2);
    }

    private static void anEvening() {
        NextAtBar x = Checks.bar(EVENING);
        for (int now = 0; now <= 41; now++) {
            String at = " from " + now;
            C.answers("13" + at, new int[] {x.fate(0), x.fate(1), x.fate(2), x.fate(3), x.fate(4), x.fate(5)}, 0, 0, 0, 2, 1, NONE);
            C.answers("14" + at, new int[] {x.waits(0), x.waits(1), x.waits(2), x.waits(3), x.waits(4), x.waits(-1)},
                0, 3, 12, 6, 7, NONE);
            C.answers("15" + at, new int[] {x.whom(0), x.whom(2), x.whom(3), x.whom(4), x.whom(5)}, 0, 0, -2, -2, NONE);
            C.answers("16" + at, new int[] {x.has(0), x.has(1), x.has(2), x.has(3), x.has(4), x.has(5)}, 5, 13, 21, -2, 9, NONE);
            // eve came at once with bob, with a greater number: bob did not push in ahead of her.
            C.answers("17" + at, new int[] {x.passed(0), x.passed(2), x.passed(4), x.passed(5)}, 0, 2, 0, NONE);
            C.answers("18" + at, new int[] {x.pushed(0), x.pushed(1), x.pushed(2), x.pushed(5)}, 0, 4, 0, NONE);
            C.answers("19" + at, new int[] {x.sum(0), x.sum(1), x.sum(2), x.sum(3), x.sum(4), x.sum(5), x.sum(6), x.sum(-1)},
                4, 1, 0, 28, 1, 39, NONE, NONE);
            C.answers("20" + at, new int[] {x.served(0), x.served(1), x.served(2), x.served(3), x.served(-1)}, 0, 1, 2, NONE, NONE);
            C.due("20 trouble", x.trouble(), 1);
            if (now % 11 == 10) {
                x = Checks.bar(EVENING);
                x.pass(now + 1);
            } else {
                C.due("41 pass" + at, x.pass(1), now < 41 ? (now == 40 ? 41 : now + 1) : NONE);
            }
        }
        NextAtBar y = Checks.bar(START + ";person bob honest comes 3 at 4 patience 600 look 0 wants ale 1"
            + ";staff tim row at 4 from 0 to 0 step 0 hands 1");
        y.pass(4);
        y.leaves(1);
        C.answers("13, 14 left", new int[] {y.fate(1), y.waits(1), y.sum(0), y.sum(1), y.sum(2), y.sum(3)}, 4, -2, 1, 0, 0, 0);
        // Nobody serves place 3: who stands there waits to the bell.
        NextAtBar z = Checks.bar(plain(4, 30, 5, 5, staff("s", "row", 0, 0, 2)) + man("a", "honest", 7, 3, 600, 0)
            + man("b", "honest", 30, 0, 600, 0) + man("c", "honest", 7, 3, 0, 0));
        C.answers("13 still waiting", new int[] {z.fate(0), z.waits(0), z.has(0), z.whom(0)}, 3, 23, -2, -2);
        C.answers("13 begun at the bell", new int[] {z.fate(1), z.waits(1), z.has(1)}, 0, 0, 35);
        C.answers("13 no patience", new int[] {z.fate(2), z.waits(2)}, 2, 0);
        C.answers("19", new int[] {z.sum(0), z.sum(1), z.sum(2), z.sum(3), z.sum(5)}, 1, 1, 1, 23, 1);
    }

    /** Who is begun with one by one, all of them waiting from second 0 on. */
    private static void order(String rule, int at, int from, int to, String people, int... want) {
        NextAtBar x = Checks.bar(plain(6, 99, 5, 5, staff("s", rule, at, from, to)) + people);
        for (int i = 0; i < want.length; i++) {
            C.due("II by " + rule + " served " + i, x.served(i), want[i]);
        }
        C.due("II by " + rule + " no more", x.served(want.length), NONE);
    }

    private static void rules() {
        String all = man("a", "honest", 0, 1, 600, 5) + man("b", "regular", 0, 4, 600, 9) + man("c", "liar 5", 0, 3, 600, 9)
            + man("d", "polite 5", 0, 3, 600, 7) + man("e", "regular", 0, 5, 600, 7);
        order("row", 2, 0, 5, all, 2, 3, 1, 4, 0);
        order("row", 5, 0, 4, all, 0, 2, 3, 1);
        order("row", 0, 3, 5, all, 2, 3, 1, 4);
        order("near", 2, 0, 5, all, 0, 2, 3, 1, 4);
        order("near", 4, 0, 5, all, 1, 2, 3, 0, 4);
        // The nearer one to the right goes ahead of one further off to the left, of two as near the left one.
        order("near", 2, 0, 5, man("a", "honest", 0, 0, 600, 0) + man("b", "honest", 0, 3, 600, 0), 1, 0);
        order("near", 2, 0, 5, man("a", "honest", 0, 4, 600, 0) + man("b", "honest", 0, 0, 600, 0), 1, 0);
        order("eye", 2, 0, 5, all, 1, 2, 3, 4, 0);
        order("asked", 2, 0, 5, all, 2, 0, 1, 4, 3);
        order("regular", 2, 0, 5, all, 1, 4, 0, 2, 3);
        // Of like ones who came first.
        String later = man("z", "honest", 0, 0, 600, 0) + man("a", "honest", 2, 2, 600, 5) + man("b", "honest", 1, 2, 600, 5);
        for (String rule : Model.RULES) {
            order(rule, 0, 0, 5, later, 0, 2, 1);
        }
        // By numbers the first of the staff begins first.
        NextAtBar x = Checks.bar(plain(6, 99, 5, 5, staff("s", "row", 0, 0, 5) + staff("t", "eye", 0, 0, 5)) + all);
        C.answers("II two staff", new int[] {x.whom(0), x.whom(1), x.served(0), x.served(1)}, 0, 1, 0, 1);
        // A shelf at his coming goes ahead of giving up and of staff.
        NextAtBar y = Checks.bar(plain(1, 9, 5, 5, staff("s", "row", 0, 0, 0)) + man("a", "honest", 3, 0, 0, 0) + ";shelf a ready 2");
        C.answers("II shelf", new int[] {y.fate(0), y.has(0), y.waits(0)}, 1, 3, 0);
        NextAtBar z = Checks.bar(plain(1, 9, 9, 5, staff("s", "row", 0, 0, 0)) + man("b", "honest", 2, 0, 3, 0)
            + man("a", "honest", 2, 0, 3, 0) + ";shelf a ready 5");
        C.answers("II shelf ahead of giving up", new int[] {z.fate(1), z.has(1), z.waits(1)}, 1, 5, 3);
    }

    private static void otherRules() {
        // One of the staff at 0 on 0..1; a at 1 first, then (while he is busy) b at 0, c at 1 (regular), d at 3.
        String house = plain(4, 20, 5, 5, staff("s", "asked", 0, 0, 1)) + man("a", "honest", 0, 1, 600, 0)
            + man("b", "honest", 1, 0, 600, 3) + man("c", "regular", 2, 1, 600, 5) + man("d", "honest", 3, 3, 600, 9);
        NextAtBar x = Checks.bar(house);
        // row: a at 0, c at 5, b at 10: waits 0, 9, 3, 17. asked: b at 5, c at 10: 0, 4, 8, 17.
        C.answers("21 waits", new int[] {x.by(0, false, 3), x.by(1, false, 3), x.by(2, false, 3), x.by(3, false, 3), x.by(4, false, 3)},
            29, 29, 29, 29, 29);
        C.answers("21 out of turn", new int[] {x.by(0, false, 4), x.by(1, false, 4), x.by(2, false, 4), x.by(3, false, 4), x.by(4, false, 4)},
            1, 1, 1, 0, 1);
        // roving by row: a, c, d at 10 (place 3), b at 15: b passed by c and d.
        C.answers("21 roving", new int[] {x.by(0, true, 0), x.by(0, true, 4), x.by(0, true, 2), x.by(0, false, 0), x.by(2, true, 4)},
            4, 2, 0, 3, 3);
        C.answers("21 wrong", new int[] {x.by(-1, true, 0), x.by(5, true, 0), x.by(0, true, 6), x.by(0, true, -1)}, NONE, NONE, NONE, NONE);
        C.due("21 trouble", x.trouble(), 1);
        C.answers("22", new int[] {x.bestRule(true), x.bestRule(false), x.trouble()}, 3, 0, 0);
        // Only by eye do both have it: a's patience ends at 3, b waits.
        NextAtBar y = Checks.bar(plain(2, 20, 5, 5, staff("s", "row", 0, 0, 1)) + man("b", "honest", 0, 0, 600, 3)
            + man("a", "honest", 0, 1, 3, 9));
        C.answers("22 most", new int[] {y.by(0, false, 0), y.by(2, false, 0), y.bestRule(false), y.bestRule(true)}, 1, 2, 2, 0);
        // d stands where nobody of the staff serves.
        C.due("23", x.hand(), 1);
        NextAtBar z = Checks.bar(plain(5, 20, 5, 5, staff("s", "row", 0, 4, 4)) + man("a", "honest", 0, 0, 600, 0)
            + man("b", "honest", 18, 0, 600, 0));
        C.answers("23", new int[] {z.hand(), z.trouble(), z.sum(0), z.size(3)}, 2, 0, 0, 1);
        z.pass(16);
        // a from 16 to 23, so b waits still at the bell.
        C.due("23 from now on", z.hand(), 1);
    }

    private static void handMore() {
        // From the midst (place 2), step 1: a at place 0 till 0 + 2 + 5 = 7; at 7 b must not have given up.
        String house = plain(5, 20, 5, 5, staff("s", "row", 0, 4, 4)) + man("a", "honest", 0, 0, 600, 0);
        C.due("23 just in time", Checks.bar(house + man("b", "honest", 0, 0, 8, 0)).hand(), 2);
        C.due("23 too late", Checks.bar(house + man("b", "honest", 0, 0, 7, 0)).hand(), 1);
        // It asks: the liar is first.
        C.due("23 asks", Checks.bar(house + man("b", "liar 1", 0, 0, 7, 0)).hand(), 2);
        C.due("23 none more", Checks.bar(plain(1, 9, 5, 5, staff("s", "row", 0, 0, 0)) + man("a", "honest", 0, 0, 9, 0)).hand(), 0);
    }

    private static void beforehand() {
        // a at 0 till 5, b from 5 to 10, c from 10 on: waits 0, 4, 8.
        String house = plain(2, 20, 5, 5, staff("s", "row", 0, 0, 1)) + man("a", "honest", 0, 0, 600, 0)
            + man("b", "honest", 1, 0, 600, 0) + man("c", "honest", 2, 0, 600, 0);
        NextAtBar x = Checks.bar(house + ";shelf c ready 19");
        // Without a: b at 1, c at 6: 12 less 4; without b: c at 5: 12 less 3.
        C.answers("24", new int[] {x.beforehand(0), x.beforehand(1), x.trouble()}, 8, 9, 0);
        C.answers("24 has a shelf", new int[] {x.beforehand(2), x.trouble()}, -1000, 5);
        C.answers("24 none such", new int[] {x.beforehand(3), x.trouble(), x.beforehand(-1)}, -1000, 1, -1000);
        x.pass(1);
        C.answers("24 has come", new int[] {x.beforehand(0), x.trouble(), x.beforehand(1), x.trouble()}, -1000, 5, 9, 0);
        C.due("24 as told still", x.told(1, 6), -2);
    }

    private static void bestPlaces() {
        // s goes by row from 0: a holds him at place 1 from 0 to 5; then 1, 2, 3 and 0 in that row; b waits at 2.
        String house = plain(4, 20, 5, 5, staff("s", "row", 0, 0, 3)) + man("a", "honest", 0, 1, 600, 0)
            + man("b", "honest", 1, 2, 600, 50);
        NextAtBar x = Checks.bar(house + man("c", "honest", 2, 0, 600, 0));
        // At 1: c at 5. At 2: behind b. So 1.
        C.answers("25", new int[] {x.bestPlace(2), x.trouble(), x.bestPlace(0), x.bestPlace(1)}, 1, 0, 0, 0);
        C.answers("25 wrong", new int[] {x.bestPlace(3), x.trouble()}, NONE, 1);
        x.pass(1);
        C.answers("25 has come", new int[] {x.bestPlace(0), x.trouble()}, NONE, 5);
        C.due("25 none", Checks.bar(house + man("c", "honest", 2, 0, 1, 0)).bestPlace(2), -2);
        // Only place 3 is served.
        C.due("25 the only one", Checks.bar(plain(4, 20, 5, 5, staff("s", "row", 0, 3, 3)) + man("a", "honest", 0, 0, 600, 0)).bestPlace(0), 3);
    }

    private static void bestManners() {
        String people = man("a", "honest", 0, 0, 600, 0) + man("b", "honest", 1, 0, 600, 0) + man("c", "honest", 2, 0, 600, 0);
        NextAtBar asked = Checks.bar(plain(1, 40, 5, 5, staff("s", "asked", 0, 0, 0)) + people);
        C.answers("26 asked", new int[] {asked.bestManner(0), asked.bestManner(1), asked.bestManner(2), asked.trouble()}, 0, 0, 1, 0);
        NextAtBar regular = Checks.bar(plain(1, 40, 5, 5, staff("s", "regular", 0, 0, 0)) + people);
        C.answers("26 regular", new int[] {regular.bestManner(1), regular.bestManner(2), regular.bestManner(3), regular.trouble()}, 0, 3, NONE, 1);
        regular.pass(1);
        C.answers("26 has come", new int[] {regular.bestManner(0), regular.trouble()}, NONE, 5);
        C.due("26 none", Checks.bar(plain(1, 40, 5, 5, staff("s", "asked", 0, 0, 0)) + man("a", "honest", 0, 0, 0, 0)).bestManner(0), -2);
        // Among liars by 20 who came at 1, a lie by 30 makes one who comes at 9 the first (he says -21, they -19).
        NextAtBar liars = Checks.bar(plain(1, 90, 9, 9, staff("s", "asked", 0, 0, 0)) + man("a", "honest", 0, 0, 600, 0)
            + man("b", "liar 20", 1, 0, 600, 0) + man("c", "polite 9", 9, 0, 600, 0) + man("d", "liar 20", 1, 0, 600, 0));
        C.answers("26 by thirty", new int[] {liars.bestManner(2), liars.person(2, 3), liars.told(2, 0)}, 1, 18, 2);
        // By row no manner helps, so honest is the first of like ones.
        NextAtBar row = Checks.bar(plain(1, 40, 5, 5, staff("s", "row", 0, 0, 0)) + people);
        C.due("26 first of like ones", row.bestManner(2), 0);
    }

    private static void cuts() {
        // a at 0, b at 1, c at 2 (all at 0), takes 5: cut at 0 leaves b, c to t: waits 5; at 1 likewise a, b: 5; at 2 all: 15.
        String three = man("a", "honest", 0, 0, 600, 0) + man("b", "honest", 0, 1, 600, 0) + man("c", "honest", 0, 2, 600, 0);
        NextAtBar x = Checks.bar(plain(4, 30, 5, 5, staff("s", "row", 0, 3, 3) + staff("t", "row", 0, 3, 3)) + three);
        C.answers("27", new int[] {x.cut(), x.trouble(), x.sum(3), x.cutWaits(), x.trouble()}, 0, 0, 90, 5, 0);
        NextAtBar y = Checks.bar(plain(4, 30, 5, 5, staff("s", "row", 0, 3, 3) + staff("t", "row", 0, 3, 3)) + three
            + man("d", "honest", 0, 2, 600, 0));
        C.answers("27 later", new int[] {y.cut(), y.cutWaits()}, 1, 10);
        // The third one stays as he is, and takes c, while t takes b.
        NextAtBar z = Checks.bar(plain(3, 30, 5, 5, staff("s", "row", 0, 0, 0) + staff("t", "row", 0, 0, 0) + staff("u", "row", 2, 2, 2)) + three);
        C.answers("27 three", new int[] {z.cut(), z.cutWaits()}, 0, 0);
        NextAtBar alone = Checks.bar(plain(4, 30, 5, 5, staff("s", "row", 0, 3, 3)) + three);
        C.answers("27 alone", new int[] {alone.cut(), alone.trouble(), alone.cutWaits(), alone.trouble()}, NONE, 5, NONE, 5);
        NextAtBar narrow = Checks.bar(plain(1, 30, 5, 5, staff("s", "row", 0, 0, 0) + staff("t", "row", 0, 0, 0)) + man("a", "honest", 0, 0, 9, 0));
        C.answers("27 one place", new int[] {narrow.cut(), narrow.trouble(), narrow.cutWaits(), narrow.trouble()}, NONE, 5, NONE, 5);
        NextAtBar two = Checks.bar(plain(2, 30, 5, 5, staff("s", "row", 0, 0, 0) + staff("t", "row", 0, 0, 0)) + man("a", "honest", 0, 1, 99, 0));
        C.answers("27 two places", new int[] {two.cut(), two.cutWaits()}, 0, 0);
    }

    private static void leastLooks() {
        // a from 0 to 5; then the greatest look of b (50), c (70): d must have 71 to be next, who came last.
        String house = plain(1, 40, 5, 5, staff("s", "eye", 0, 0, 0)) + man("a", "honest", 0, 0, 600, 0)
            + man("b", "honest", 1, 0, 600, 50) + man("c", "honest", 1, 0, 600, 70);
        NextAtBar x = Checks.bar(house + man("d", "honest", 2, 0, 600, 0));
        C.answers("29", new int[] {x.leastLook(3), x.leastLook(2), x.leastLook(1), x.leastLook(0), x.trouble()}, 71, 51, 70, 0, 0);
        C.answers("29 wrong", new int[] {x.leastLook(4), x.trouble()}, NONE, 1);
        x.pass(1);
        C.answers("29 has come", new int[] {x.leastLook(0), x.trouble()}, NONE, 5);
        C.due("29 none", Checks.bar(house + man("d", "honest", 2, 0, 3, 0)).leastLook(3), -2);
        C.due("29 patience", Checks.bar(house + man("d", "honest", 2, 0, 9, 0)).leastLook(3), 71);
        C.due("29 by ninety-nine", Checks.bar(plain(1, 40, 5, 5, staff("s", "eye", 0, 0, 0)) + man("a", "honest", 0, 0, 600, 0)
            + man("b", "honest", 1, 0, 600, 98) + man("c", "honest", 1, 0, 600, 0)).leastLook(2), 99);
        C.due("29 the greatest", Checks.bar(plain(1, 40, 5, 5, staff("s", "eye", 0, 0, 0)) + man("a", "honest", 0, 0, 600, 0)
            + man("b", "honest", 1, 0, 600, 99) + man("c", "honest", 1, 0, 600, 0)).leastLook(2), 0);
    }

    private static void letting() {
        NextAtBar x = Checks.bar(plain(1, 40, 5, 5, staff("s", "asked", 0, 0, 0)) + man("a", "honest", 0, 0, 600, 0)
            + man("b", "honest", 1, 0, 600, 0) + man("c", "honest", 3, 0, 600, 0) + man("d", "polite 1", 2, 0, 600, 0)
            + man("e", "honest", 9, 0, 600, 0));
        x.pass(4);
        // b says 1, c 3, d 3; b is next at 5, d (who came at 2) at 10, c at 15, e at 20.
        C.answers("30", new int[] {x.letCosts(1, 2), x.letCosts(1, 3), x.letCosts(3, 2), x.letCosts(2, 3), x.trouble()}, 10, 10, 5, 0, 0);
        C.answers("30 wrong", new int[] {x.letCosts(1, 1), x.trouble(), x.letCosts(1, 5), x.trouble(), x.letCosts(-1, 1)},
            -1000, 1, -1000, 1, -1000);
        C.answers("30 not so", new int[] {x.letCosts(2, 1), x.trouble(), x.letCosts(1, 0), x.trouble(), x.letCosts(4, 1), x.trouble()},
            -1000, 5, -1000, 5, -1000, 5);
        C.due("43 unlike", x.lets(1, 1), false);
        C.due("43 trouble", x.trouble(), 1);
        C.due("43 none such", x.lets(5, 1), false);
        C.due("43 trouble again", x.trouble(), 1);
        C.due("43 says more", x.lets(2, 1), false);
        C.due("43 trouble of it", x.trouble(), 5);
        C.due("43 is served", x.lets(1, 0), false);
        C.due("43 trouble of that", x.trouble(), 5);
        C.due("43 refused ones are no acts", x.size(8), 1);
        C.due("43", x.lets(1, 2), true);
        C.answers("43 says", new int[] {x.person(1, 3), x.trouble(), x.size(8), x.next(0), x.person(2, 3)}, 4, 0, 2, 3, 3);
        C.due("43 once more", x.lets(1, 2), false);
        C.due("43 the other way", x.lets(2, 1), true);
        C.answers("43 order", new int[] {x.served(1), x.served(2), x.served(3), x.served(4), x.person(2, 3)}, 3, 1, 2, 4, 5);
        C.due("43 of like ones", Checks.bar(EVENING).lets(0, 1), false);
    }

    private static void bells() {
        NextAtBar x = Checks.bar(EVENING);
        C.answers("31 at 0", new int[] {x.bell(0, 0), x.bell(0, 2), x.bell(0, 3)}, 1, 0, 0);
        // At 4: ann is begun with; bob waits 2, cat 3, dan 1, eve 2.
        C.answers("31 at 4", new int[] {x.bell(4, 0), x.bell(4, 1), x.bell(4, 2), x.bell(4, 3), x.bell(4, 5)}, 1, 0, 4, 8, 6);
        C.answers("31 at 1", new int[] {x.bell(1, 0), x.bell(1, 2), x.bell(1, 3)}, 1, 1, 0);
        C.answers("31 at 900", new int[] {x.bell(900, 0), x.bell(900, 3), x.trouble()}, 4, 28, 0);
        C.answers("31 wrong", new int[] {x.bell(901, 0), x.trouble(), x.bell(-1, 0), x.trouble(), x.bell(901, 6), x.trouble()},
            NONE, 2, NONE, 2, NONE, 1);
        C.answers("32", new int[] {x.waitingAt(0), x.waitingAt(1), x.waitingAt(2), x.waitingAt(3), x.waitingAt(5), x.waitingAt(8),
            x.waitingAt(9), x.waitingAt(13), x.waitingAt(40)}, 0, 1, 3, 4, 3, 3, 1, 0, 0);
        C.answers("32 wrong", new int[] {x.waitingAt(41), x.trouble(), x.waitingAt(-1), x.trouble()}, NONE, 2, NONE, 2);
        x.pass(5);
        C.answers("31, 32 now", new int[] {x.bell(4, 0), x.trouble(), x.bell(5, 0), x.trouble(), x.waitingAt(4), x.trouble(), x.waitingAt(5)},
            NONE, 2, 2, 0, NONE, 2, 3);
        NextAtBar y = Checks.bar(plain(2, 10, 5, 5, staff("s", "row", 0, 0, 0)) + man("a", "honest", 4, 1, 600, 0));
        C.answers("31 longer", new int[] {y.bell(900, 3), y.bell(10, 3), y.bell(3, 3), y.bell(3, 2), y.bell(700, 1)}, 600, 6, 0, 0, 1);
        y.pass(11);
        C.answers("31 behind the bell", new int[] {y.bell(10, 2), y.trouble(), y.bell(11, 2), y.bell(11, 3), y.waitingAt(10), y.trouble()},
            NONE, 2, 1, 7, NONE, 2);
    }

    private static void honesty() {
        // By asked: a from 0 to 5, b (came at 1) from 5, c (2) from 10; a liar among b, c goes first; patience for all.
        String people = man("a", "honest", 0, 0, 600, 0) + man("b", "polite 9", 1, 0, 600, 0) + man("c", "regular", 2, 0, 600, 0);
        NextAtBar x = Checks.bar(plain(1, 40, 5, 5, staff("s", "asked", 0, 0, 0)) + people);
        // None lies: waits 0, 4, 8. c lies: 0, 9, 3. b or both: 0, 4, 8.
        C.answers("33", new int[] {x.honesty(0, true), x.honesty(0, false), x.honesty(4, false), x.honesty(4, true), x.honesty(6, false),
            x.honesty(2, false), x.honesty(2, true), x.honesty(7, false), x.trouble()}, 12, 0, 3, 9, 12, 4, 8, 12, 0);
        C.answers("33 wrong", new int[] {x.honesty(8, true), x.trouble(), x.honesty(-1, true), x.trouble()}, NONE, 2, NONE, 2);
        // At rest where b lies: else one of b, c would gain by lying.
        C.answers("34", new int[] {x.rest(0), x.rest(2), x.rest(4), x.rest(6), x.rest(1), x.rest(7), x.trouble()}, 0, 1, 0, 1, 0, 1, 0);
        C.answers("34 wrong", new int[] {x.rest(8), x.trouble(), x.rest(-1), x.trouble()}, NONE, 2, NONE, 2);
        C.due("35", x.rests(), 4);
        x.pass(6);
        x.leaves(2);
        C.answers("33 to 35 from second 0 on", new int[] {x.honesty(4, true), x.rest(4), x.rests()}, 9, 0, 4);
        // Regulars, too, are honest.
        NextAtBar regular = Checks.bar(plain(1, 40, 5, 5, staff("s", "regular", 0, 0, 0)) + people);
        C.answers("33 regulars", new int[] {regular.sum(3), regular.waits(2), regular.honesty(4, false), regular.rests()}, 12, 3, 8, 8);
        String one = "house long 5 bell 4;drink a takes 1 then 1 costs 1;staff b row at 0 from 0 to 0 step 0 hands 1";
        String eight = one + times(8, ";person p", " honest comes 0 at 0 patience 0 look 0 wants a 1");
        C.answers("35 too many", new int[] {Checks.bar(eight).rests(), Checks.bar(one + times(7, ";person p",
            " honest comes 0 at 0 patience 0 look 0 wants a 1")).rests()}, NONE, 128);
        NextAtBar y = Checks.bar(eight);
        y.rests();
        C.answers("35 trouble", new int[] {y.trouble(), y.rest(255), y.trouble()}, 3, 1, 0);
    }

    private static void rows() {
        // ale 9 (then 1), gin 4 (then 4), rum 2 (then 1). Nobody is served before all wait, as s is at another stretch.
        String house = "house long 2 bell 40;drink ale takes 9 then 1 costs 1;drink gin takes 4 then 4 costs 1;drink rum takes 2 then 1 costs 1"
            + ";staff s row at 0 from 1 to 1 step 9 hands 2;person a honest comes 0 at 0 patience 600 look 0 wants ale 1"
            + ";person b honest comes 0 at 0 patience 600 look 0 wants gin 1;person c honest comes 0 at 0 patience 600 look 0 wants ale 1";
        NextAtBar x = Checks.bar(house);
        C.answers("36 nobody", new int[] {x.row(0, 0), x.trouble(), x.rowSum(0), x.trouble()}, NONE, 1, 0, 0);
        x.pass(1);
        // b 4, a 13, c 14: 31. (a 9, c 10, b 14: 33.)
        C.answers("36", new int[] {x.row(0, 0), x.row(0, 1), x.row(0, 2), x.trouble(), x.row(0, 3), x.trouble(), x.row(0, -1), x.row(1, 0)},
            1, 0, 2, 0, NONE, 1, NONE, NONE);
        C.answers("37", new int[] {x.rowSum(0), x.trouble(), x.rowSum(1), x.trouble()}, 31, 0, NONE, 1);
        // Behind an order of ale that he began with: a 1, c 2, b 6: 9.
        NextAtBar y = Checks.bar(house + ";person d honest comes 0 at 1 patience 600 look 0 wants ale 1");
        y.pass(1);
        C.answers("36 behind ale", new int[] {y.row(0, 0), y.row(0, 1), y.row(0, 2), y.rowSum(0)}, 0, 2, 1, 9);
        String one = "house long 5 bell 4;drink a takes 1 then 1 costs 1;staff b row at 0 from 1 to 1 step 0 hands 1";
        NextAtBar eight = Checks.bar(one + times(8, ";person p", " honest comes 0 at 0 patience 9 look 0 wants a 1"));
        eight.pass(1);
        C.answers("36 too many", new int[] {eight.row(0, 0), eight.trouble(), eight.row(0, 8), eight.trouble(), eight.rowSum(0), eight.trouble()},
            NONE, 3, NONE, 1, NONE, 3);
        eight.leaves(3);
        C.answers("36 seven", new int[] {eight.row(0, 0), eight.row(0, 3), eight.row(0, 6), eight.rowSum(0), eight.trouble()}, 0, 4, 7, 28, 0);
    }

    private static void tellings() {
        String five = times(5, ";person p", " honest comes 1 at 0 patience 0 look 0 wants x 1");
        String house = plain(1, 9, 1, 1, staff("s", "row", 0, 0, 0)) + five;
        NextAtBar none = Checks.bar(house);
        C.answers("38 none", new int[] {none.liars(), none.trouble(), none.surely(0, 1), none.so()}, 0, 0, 0, 0);
        // pb contradicts pa and pc, pd contradicts himself.
        NextAtBar x = Checks.bar(house + ";says pa pa before pb;says pb pb before pa;says pc pa before pb;says pb pe before pa"
            + ";says pd pa before pe;says pd pe before pa;says pc pb before pd");
        C.answers("38", new int[] {x.liars(), x.trouble()}, 10, 0);
        C.answers("39", new int[] {x.surely(0, 1), x.surely(1, 3), x.surely(0, 3), x.surely(3, 0), x.surely(4, 0), x.surely(0, 4), x.trouble()},
            1, 1, 1, 0, 0, 0, 0);
        C.answers("39 wrong", new int[] {x.surely(0, 0), x.trouble(), x.surely(5, 0), x.trouble(), x.surely(0, -1)}, NONE, 1, NONE, 1, NONE);
        // All came at once, so by numbers: a<b twice, a<e, b<d are so.
        C.answers("40", new int[] {x.so(), x.trouble()}, 4, 0);
        // Of like ones the least bits: pb and pd against one another.
        C.due("38 least bits", Checks.bar(house + ";says pd pa before pb;says pb pb before pa").liars(), 2);
        C.due("38 fewest", Checks.bar(house + ";says pa pa before pb;says pb pa before pc;says pe pb before pa;says pe pc before pa").liars(), 16);
        NextAtBar later = Checks.bar(plain(1, 9, 1, 1, staff("s", "row", 0, 0, 0)) + man("a", "liar 9", 5, 0, 0, 0)
            + man("b", "honest", 3, 0, 0, 0) + ";says a a before b;says a b before a;says b b before a");
        C.answers("40 by seconds", new int[] {later.so(), later.liars(), later.surely(1, 0), later.surely(0, 1)}, 2, 1, 1, 0);
    }

    private static void passing() {
        NextAtBar x = Checks.bar("house long 1 bell 600;drink x takes 1 then 1 costs 1" + staff("s", "row", 0, 0, 0) + man("a", "honest", 600, 0, 9, 0));
        C.answers("41", new int[] {x.pass(0), x.trouble(), x.pass(201), x.trouble(), x.pass(-1), x.size(8)}, NONE, 2, NONE, 2, NONE, 0);
        C.answers("41 two hundred", new int[] {x.pass(200), x.trouble(), x.pass(200), x.pass(200), x.size(7), x.person(0, 0)}, 200, 0, 400, 600, 600, 0);
        C.answers("41 beyond", new int[] {x.pass(2), x.trouble(), x.pass(201), x.trouble(), x.pass(1), x.trouble(), x.person(0, 0)}, NONE, 3, NONE, 2, 601, 0, 3);
        C.answers("41 behind the bell", new int[] {x.pass(1), x.trouble(), x.size(7), x.has(0), x.fate(0)}, NONE, 3, 601, 601, 0);
    }

    private static void acts() {
        NextAtBar x = Checks.bar(EVENING);
        x.pass(4);
        C.due("42", x.moves(1, 4), true);
        C.answers("42 place", new int[] {x.trouble(), x.person(1, 1), x.elbows(4), x.elbows(0), x.told(1, 3), x.has(1)}, 0, 4, 2, 0, 0, 13);
        C.due("42 there already", x.moves(1, 4), false);
        C.due("42 trouble", x.trouble(), 5);
        C.due("42 served", x.moves(0, 0), false);
        C.due("42 trouble of it", x.trouble(), 5);
        C.due("42 no place", x.moves(0, 5) || x.moves(1, -1), false);
        C.due("42 trouble of that", x.trouble(), 1);
        C.due("42 nobody", x.moves(5, 0) || x.moves(-1, 0), false);
        C.due("42 trouble of him", x.trouble(), 1);
        C.answers("44", new int[] {x.calls(1), x.trouble(), x.person(1, 2), x.told(1, 5), x.calls(1)}, 25, 0, 25, 20, 30);
        C.answers("44 at most", new int[] {x.calls(4), x.calls(4), x.size(8)}, 99, 99, 6);
        C.answers("44 wrong", new int[] {x.calls(5), x.trouble(), x.calls(-1), x.trouble(), x.calls(0), x.trouble(), x.size(8)}, NONE, 1, NONE, 1, NONE, 5, 6);
        C.due("45", x.leaves(3), true);
        C.answers("45 left", new int[] {x.trouble(), x.person(3, 0), x.waiting(), x.fate(3)}, 0, 5, 3, 4);
        C.due("45 left already", x.leaves(3), false);
        C.due("45 trouble", x.trouble(), 5);
        C.due("45 nobody", x.leaves(5) || x.leaves(-1), false);
        C.due("45 trouble of him", x.trouble(), 1);
        C.due("46", x.undo(), true);
        C.answers("46 back again", new int[] {x.trouble(), x.person(3, 0), x.waiting(), x.size(8)}, 0, 1, 4, 6);
        C.due("46 calls", x.undo() && x.undo() && x.undo() && x.undo(), true);
        C.answers("46 calls undone", new int[] {x.person(4, 2), x.person(1, 2), x.person(1, 1)}, 98, 20, 4);
        C.due("46 move and pass", x.undo() && x.undo(), true);
        C.answers("46 at first again", new int[] {x.size(7), x.size(8), x.person(1, 1), x.person(0, 0)}, 0, 0, 0, 0);
        C.due("46 nothing", x.undo(), false);
        C.due("46 trouble", x.trouble(), 6);
        for (int i = 0; i < 14; i++) {
            x.pass(1);
        }
        C.due("46 twelve are kept", x.size(8), 12);
        for (int i = 0; i < 12; i++) {
            C.due("46 of twelve", x.undo(), true);
        }
        C.due("46 of twelve no more", x.undo(), false);
        C.due("46 now", x.size(7), 2);
    }

    private static void images() {
        NextAtBar x = Checks.bar(EVENING);
        C.due("47", x.image(), 0);
        x.pass(4);
        C.answers("47 second", new int[] {x.image(), x.trouble(), x.size(9), x.size(8)}, 1, 0, 2, 1);
        x.leaves(1);
        x.calls(2);
        C.answers("47 third", new int[] {x.image(), x.image(), x.trouble(), x.size(9)}, 2, NONE, 3, 3);
        C.due("48 none such", x.back(3) || x.back(-1), false);
        C.due("48 trouble", x.trouble(), 1);
        C.due("48 undo stays, if refused", x.size(8), 3);
        C.due("48", x.back(1), true);
        C.answers("48 as then", new int[] {x.trouble(), x.person(1, 0), x.person(2, 2), x.size(7), x.size(8), x.size(9)}, 0, 1, 30, 4, 0, 3);
        C.due("48 nothing to undo", x.undo(), false);
        x.pass(9);
        x.leaves(2);
        C.due("48 first", x.back(0), true);
        C.answers("48 all as at first", new int[] {x.size(7), x.person(0, 0), x.sum(3), x.served(2)}, 0, 0, 28, 2);
        C.due("48 third", x.back(2), true);
        C.answers("48 as at third", new int[] {x.size(7), x.person(1, 0), x.person(2, 2), x.staff(0, 2), x.sum(0)}, 4, 5, 35, 5, 3);
    }

    private static void whatIsTold() {
        NextAtBar x = Checks.bar(EVENING);
        C.answers("49 manners", new int[] {x.told(0, 0), x.told(1, 0), x.told(2, 0), x.told(3, 0)}, 0, 1, 2, 3);
        C.answers("49 by", new int[] {x.told(0, 1), x.told(1, 1), x.told(2, 1), x.told(3, 1)}, 0, 9, 3, 0);
        C.answers("49 dan", new int[] {x.told(3, 2), x.told(3, 3), x.told(3, 4), x.told(3, 5), x.told(3, 6)}, 3, 2, 6, 40, -2);
        C.answers("49 eve", new int[] {x.told(4, 2), x.told(4, 3), x.told(4, 4), x.told(4, 5), x.told(4, 6), x.trouble()}, 2, 1, 50, 98, 9, 0);
        C.answers("49 wrong", new int[] {x.told(5, 0), x.told(-1, 0), x.told(0, 7), x.told(0, -1), x.trouble()}, NONE, NONE, NONE, NONE, 1);
        C.answers("50", new int[] {x.wants(0, 0), x.wants(0, 1), x.wants(2, 0), x.wants(2, 1), x.trouble()}, 2, 0, 1, 2, 0);
        C.answers("50 wrong", new int[] {x.wants(0, 2), x.wants(5, 0), x.wants(-1, 0), x.wants(0, -1), x.trouble()}, NONE, NONE, NONE, NONE, 1);
        C.due("51 nobody", throwsNone(x, 0), true);
        C.due("51 leaves trouble alone", x.trouble(), 1);
        C.answers("52", new int[] {x.size(0), x.size(1), x.size(2), x.size(3), x.size(4), x.size(5), x.size(6), x.size(7), x.size(8),
            x.size(9), x.size(10), x.size(11), x.size(-1)}, 5, 40, 2, 1, 5, 1, 3, 0, 0, 0, 0, NONE, NONE);
        C.due("52 leaves trouble alone", x.trouble(), 1);
        x.fault();
        x.where();
        C.due("53 stays", x.trouble(), 1);
        x.waiting();
        C.due("53 gone", x.trouble(), 0);
    }

    /** Numbers far out of all bounds are refused like those next to the bounds. */
    private static void farOut() {
        for (int far : new int[] {Integer.MIN_VALUE, Integer.MIN_VALUE + 1, -1000, 1000, Integer.MAX_VALUE - 1, Integer.MAX_VALUE}) {
            NextAtBar x = Checks.bar(EVENING);
            x.pass(4);
            x.image();
            int[] none = {x.house(far), x.person(far, 0), x.person(0, far), x.staff(far, 0), x.staff(0, far), x.elbows(far), x.next(far),
                x.time(far, 0), x.time(0, far), x.costs(far), x.fate(far), x.waits(far), x.whom(far), x.has(far), x.passed(far),
                x.pushed(far), x.sum(far), x.served(far), x.by(far, true, 0), x.by(0, true, far), x.bestPlace(far), x.bestManner(far),
                x.leastLook(far), x.bell(far, 0), x.bell(9, far), x.waitingAt(far), x.honesty(far, true), x.rest(far), x.row(far, 0),
                x.row(0, far), x.rowSum(far), x.surely(far, 0), x.surely(0, far), x.pass(far), x.calls(far), x.told(far, 0),
                x.told(0, far), x.wants(far, 0), x.wants(0, far), x.size(far)};
            for (int i = 0; i < none.length; i++) {
                C.due("far out " + far + ", call " + i, none[i], NONE);
            }
            C.answers("far out", new int[] {x.beforehand(far), x.letCosts(far, 1), x.letCosts(1, far)}, -1000, -1000, -1000);
            C.due("far out acts", x.moves(far, 0) || x.moves(1, far) || x.lets(far, 1) || x.lets(1, far) || x.leaves(far) || x.back(far), false);
            C.due("far out led", throwsNone(x, far), true);
            C.due("far out no act", x.size(8), 1);
        }
    }

    public static void main(String[] args) {
        newObject();
        feeding();
        housing();
        faults();
        asItStands();
        hands();
        anEvening();
        rules();
        otherRules();
        handMore();
        beforehand();
        bestPlaces();
        bestManners();
        cuts();
        leastLooks();
        letting();
        bells();
        honesty();
        rows();
        tellings();
        passing();
        acts();
        images();
        whatIsTold();
        farOut();
        C.end();
    }
}
