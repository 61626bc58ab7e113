/** Part I of the document and promises 1 to 5: each sentence that names an edge has a test of its own. */
public final class TextEdgesTest extends Bars {
    private static final Checks C = new Checks();

    private static final String NEXT_MAN = START + ";person p honest comes 0 at 0 patience 0 look 0 wants ale 1";
    private static final String WANTS = START + ";person p honest comes 0 at 0 patience 0 look 0 wants ";
    private static final String[] LINE_WORDS = {"house", "drink", "staff", "person", "shelf", "says"};
    private static final String[] KEYS = {"long", "bell", "takes", "then", "costs", "row", "near", "eye", "asked",
        "regular", "at", "from", "to", "step", "hands", "honest", "liar", "polite", "comes", "patience", "look",
        "wants", "ready", "before"};

    // ---- the tape

    private static void tapeHasAThousandBytes() {
        C.sentence("THE TAPE has 1,000 bytes");
        String blanks = " ".repeat(1000 - START.length());
        C.reads(START + blanks, 1);
        C.reads(blanks + START, 1);
        // The last byte counts, too.
        C.faultIs(START + blanks.substring(1) + "!", 1, 999);
        C.faultIs(blanks.substring(1) + START + "0", 4, 998);
        String letters = NEXT_MAN + ";says p p before";
        C.reads(letters + " ".repeat(1000 - 3 - letters.length()) + "ann", 2);
        C.faultIs(letters + " ".repeat(1000 - 3 - letters.length()) + "ale", 2, 997);
        C.sentence("THE TAPE may be full of TOKENS");
        C.faultIs(";".repeat(1000), 1, 0);
        C.faultIs("a1".repeat(500), 1, 0);
        C.behind(START + ";", ";".repeat(1000 - START.length() - 1), 1);
    }

    private static void moreIsRefused() {
        C.sentence("feed: NONE, and none comes, if there would be more than 1,000");
        NextAtBar x = new NextAtBar();
        int blank = 0x20202020;
        for (int i = 1; i <= 49; i++) {
            C.due("feed " + i, x.feed(blank, blank, blank, blank, blank), 20 * i);
        }
        C.due("up to 1,000", x.feed(blank, blank, blank, blank, 0x20202021), 1000);
        C.due("beyond", x.feed(0, 0, 0, 0, 0), NONE);
        C.due("beyond once more", x.feed(0, 0, 0, 0, 0), NONE);
        C.due("none came", x.size(10), 1000);
        // All that came before stands as it was.
        C.due("house", x.house(1000), NONE);
        C.answers("the last byte", new int[] {x.fault(), x.where(), x.size(10)}, 1, 999, 0);
        C.due("room again", x.feed(blank, blank, blank, blank, blank), 20);
    }

    private static void highestByteFirst() {
        C.sentence("feed: twenty bytes, of each number the highest first");
        for (int at = 0; at < 20; at++) {
            int[] n = {0x20202020, 0x20202020, 0x20202020, 0x20202020, 0x20202020};
            n[at / 4] ^= (' ' ^ 0xff) << 24 - 8 * (at % 4);
            NextAtBar x = new NextAtBar();
            C.due("feed", x.feed(n[0], n[1], n[2], n[3], n[4]), 20);
            x.house(20);
            C.due("the byte at " + at, x.where(), at);
        }
    }

    private static void feedsFollowOneAnother() {
        C.sentence("feed: they come behind THE TAPE");
        NextAtBar x = new NextAtBar();
        for (int i = 0; i < START.length(); i += 20) {
            String part = START.substring(i, Math.min(START.length(), i + 20));
            Checks.feed(x, part);
            C.due("so many", x.size(10), i + 20);
        }
        C.due("house", x.house(START.length()), 1);
    }

    private static void firstBytes() {
        C.sentence("house: the first n bytes of THE TAPE");
        String[] more = {"", " ", "5", ";", "!", " junk and junk"};
        for (String m : more) {
            NextAtBar x = new NextAtBar();
            Checks.feed(x, START + m);
            C.due("people, with more behind: " + m, x.house(START.length()), 1);
            C.due("two glasses", x.wants(0, 0), 2);
        }
        // The end parts a TOKEN, too.
        NextAtBar cut = new NextAtBar();
        String says = NEXT_MAN + ";says p ann before p";
        Checks.feed(cut, says + "ann");
        C.due("cut in a WORD", cut.house(says.length()), 2);
        NextAtBar x = new NextAtBar();
        Checks.feed(x, "house long 20 bell 600");
        x.house(12);
        C.answers("cut behind the 2", new int[] {x.fault(), x.where()}, 1, 12);
        Checks.feed(x, START + "x");
        C.due("cut ahead of the 2", x.house(START.length() - 1), NONE);
        C.answers("the end", new int[] {x.fault(), x.where()}, 1, START.length() - 1);
    }

    private static void numbersOfBytes() {
        C.sentence("house: NONE: 2 (THE TAPE stays)");
        NextAtBar x = new NextAtBar();
        C.answers("1 of none", new int[] {x.house(1), x.trouble(), x.fault(), x.where()}, NONE, 2, 0, NONE);
        Checks.feed(x, START);
        int tape = x.size(10);
        for (int n : new int[] {-1, tape + 1, 1001, Integer.MIN_VALUE, Integer.MAX_VALUE}) {
            C.answers("house " + n, new int[] {x.house(n), x.trouble(), x.fault(), x.where(), x.size(10), x.size(4)},
                NONE, 2, 0, NONE, tape, 0);
        }
        C.answers("then all of them", new int[] {x.house(tape), x.trouble(), x.size(10)}, 1, 0, 0);
        C.answers("none is left", new int[] {x.house(1), x.trouble()}, NONE, 2);
    }

    private static void noBytes() {
        C.sentence("house: the first n bytes, of which there may be none: the end, with which no HOUSE goes on");
        NextAtBar x = new NextAtBar();
        C.answers("of an empty tape", new int[] {x.house(0), x.trouble(), x.fault(), x.where()}, NONE, 4, 1, 0);
        Checks.feed(x, START);
        C.answers("of a full one", new int[] {x.house(0), x.trouble(), x.fault(), x.where(), x.size(10)}, NONE, 4, 1, 0, 0);
    }

    private static void tapeIsEmptyThen() {
        C.sentence("house: THE TAPE is empty then");
        NextAtBar x = new NextAtBar();
        Checks.feed(x, START + "   and so on");
        C.answers("good", new int[] {x.house(START.length()), x.size(10)}, 1, 0);
        Checks.feed(x, START + "!");
        C.answers("faulty", new int[] {x.house(START.length() + 1), x.size(10)}, NONE, 0);
        C.answers("a new text", new int[] {Checks.house(x, START), x.size(10)}, 1, 0);
    }

    private static void houseStays() {
        C.sentence("house: 4 (the HOUSE stays)");
        NextAtBar x = Checks.bar(EVENING);
        x.pass(4);
        x.calls(1);
        x.image();
        x.moves(2, 3);
        String other = "house long 9 bell 99;drink w takes 1 then 1 costs 1;staff v row at 8 from 8 to 8 step 9 hands 2"
            + ";person u honest comes 1 at 1 patience 1 look 1 wants w 9;shelf u ready 9;says u u before u";
        C.answers("faulty", new int[] {Checks.house(x, other), x.trouble(), x.fault(), x.where()},
            NONE, 4, 3, other.length() - 1);
        C.answers("sizes", new int[] {x.size(0), x.size(1), x.size(2), x.size(3), x.size(4), x.size(5), x.size(6), x.size(7),
            x.size(8), x.size(9), x.size(10)}, 5, 40, 2, 1, 5, 1, 3, 4, 3, 1, 0);
        C.answers("people", new int[] {x.person(1, 2), x.person(2, 1), x.told(1, 5), x.wants(0, 0), x.costs(0), x.so()},
            25, 3, 20, 2, 6, 2);
        C.due("undo", x.undo() && x.undo() && x.undo() && !x.undo(), true);
        C.due("an image", x.back(0), true);
        // Behind two good houses and a faulty one that was read where the first stood.
        Checks.house(x, START);
        C.due("faulty again", Checks.house(x, other), NONE);
        C.answers("the second house", new int[] {x.size(4), x.size(0), x.wants(0, 0), x.told(0, 3), x.told(0, 6)}, 1, 5, 2, 2, -2);
    }

    private static void fromNowOn() {
        C.sentence("house: NOW 0, SECOND 0 hasn't gone by yet, nothing to undo, no IMAGES");
        NextAtBar x = Checks.bar(EVENING);
        x.pass(9);
        x.image();
        x.image();
        x.image();
        C.due("another", Checks.house(x, START), 1);
        C.answers("sizes", new int[] {x.size(7), x.size(8), x.size(9), x.size(5), x.size(6)}, 0, 0, 0, 0, 0);
        C.answers("nobody there", new int[] {x.person(0, 0), x.waiting(), x.next(0), x.staff(0, 1), x.has(0)}, 0, 0, -2, 0, 5);
        C.answers("nobody begun with", new int[] {x.time(0, 0), x.served(0), x.served(1)}, 5, 0, NONE);
        C.due("nothing to undo", x.undo(), false);
        C.due("no image", x.back(0), false);
        C.answers("three again", new int[] {x.image(), x.image(), x.image(), x.image()}, 0, 1, 2, NONE);
        C.sentence("house: nothing is left of those before");
        for (int i = 0; i < 3; i++) {
            C.due("the fullest", Checks.house(x, fullest()), 10);
            C.answers("sizes of it", new int[] {x.size(0), x.size(1), x.size(2), x.size(3), x.size(4), x.size(5), x.size(6)}, 2, 9, 5, 3, 10, 10, 5);
            x.pass(1);
            C.answers("the last of all", new int[] {x.wants(9, 4), x.told(9, 6), x.person(9, 0), x.staff(2, 0), x.waiting(), x.elbows(0)}, 1, 9, 1, 0, 10, 10);
        }
        for (int i = 0; i < 3; i++) {
            C.due("a small one", Checks.house(x, START), 1);
            C.answers("sizes of that", new int[] {x.size(0), x.size(1), x.size(2), x.size(3), x.size(4), x.size(5), x.size(6)}, 5, 40, 2, 1, 1, 0, 0);
            C.answers("one alone", new int[] {x.told(0, 6), x.wants(0, 0), x.wants(0, 1), x.wants(0, 4), x.elbows(0), x.waiting(), x.staff(1, 0), x.person(1, 0), x.so(),
                x.liars()}, -2, 2, 0, NONE, 0, 0, NONE, NONE, 0, 0);
            x.pass(1);
            C.answers("one come", new int[] {x.elbows(0), x.elbows(2), x.waiting(), x.staff(0, 2), x.cut(), x.hand(), x.sum(0)}, 0, 0, 0, 5, NONE, 0, 1);
        }
    }

    /** All the room that there is: five drinks, three staff, ten people with a shelf each, and as many TELLINGS as go onto THE TAPE. */
    private static String fullest() {
        return "house long2bell9" + times(5, ";drink d", " takes1then1costs1") + times(3, ";staff s", " row at0from1to1step0hands1")
            + times(10, ";person ", " honest comes0at0patience9look0wants de1") + times(10, ";shelf ", " ready9") + ";says a j before i".repeat(5);
    }

    // ---- tokens

    private static void blanksPart() {
        C.sentence("blanks part TOKENS and mean nothing else");
        C.reads("    " + START, 1);
        C.reads(START + "   ", 1);
        C.reads(NEXT_MAN.replace(" ", "    "), 2);
        C.reads(NEXT_MAN.replace(";", "  ;  "), 2);
        C.reads(START + "  ,  gin  1", 1);
        C.reads(START + ",gin 1", 1);
        // None is needed where TOKENS end by themselves.
        C.reads(NEXT_MAN.replaceAll("([0-9]) ", "$1").replaceAll(" ([0-9])", "$1"), 2);
        // They part letters, and digits.
        C.behind("house long 5 bell 40;drink al ", "e takes 4 then 1 costs 3", 1);
        C.behind("house long 1 ", "5 bell 40", 1);
        C.behind("house ", "lo ng 5", 1);
    }

    private static void everyByte() {
        C.sentence("1 FORM: the first byte that begins no TOKEN (of all the bytes there are)");
        int end = START.length() + 1;
        for (int b = 0; b < 256; b++) {
            if (b == ' ') {
                C.reads(START + " " + (char) b, 1);
            } else {
                // Behind ; and , something must come still; all else is at fault itself.
                boolean goesOn = b == ';' || b == ',';
                C.faultIs(START + " " + (char) b, 1, goesOn ? end + 1 : end);
                C.faultIs(START + " " + (char) b + "!", 1, goesOn ? end + 1 : end);
            }
        }
        for (int b : new int[] {0, 9, 10, 13, '.', '-', '+', '/', ':', '@', 'A', 'Z', '[', '_', '`', '{', 127, 128, 160, 'a' + 128, 255}) {
            C.faultIs("" + (char) b, 1, 0);
            C.behind("house", (char) b + "long 5", 1);
            C.behind("house long 5", (char) b + "", 1);
            C.behind("house long 5 bell 40;drink al", (char) b + "e takes", 1);
        }
    }

    private static void wordsOfEight() {
        C.sentence("WORDS of 1 to 8 small letters; of more letters the first of them");
        for (String name : new String[] {"a", "z", "az", "abcdefgh", "zzzzzzzz", "aaaaaaaa"}) {
            C.reads(HOUSE + ";drink " + name + " takes 1 then 1 costs 1" + SAM + man("p", "honest", 0, 0, 0, 0, name + " 1"), 1);
        }
        for (String name : new String[] {"abcdefghi", "zzzzzzzzz", "aaaaaaaaa", "abcdefghijklmnop", "householder"}) {
            C.behind(HOUSE + ";drink ", name + " takes 1", 1);
            C.behind(HOUSE + ";", name + " x", 1);
            C.behind("", name, 1);
        }
        C.behind(START + " ", "a".repeat(700), 1);
        // All of them are told apart, to the last letter.
        String names = HOUSE + ";drink a takes 1 then 1 costs 1;drink aa takes 1 then 1 costs 2;drink aaaaaaaa takes 1 then 1 costs 3"
            + ";drink aaaaaaab takes 1 then 1 costs 4;drink baaaaaaa takes 1 then 1 costs 5" + SAM;
        int[] costs = new int[5];
        String[] all = {"a", "aa", "aaaaaaaa", "aaaaaaab", "baaaaaaa"};
        for (int i = 0; i < 5; i++) {
            costs[i] = Checks.bar(names + man("p", "honest", 0, 0, 0, 0, all[i] + " 1")).costs(0);
        }
        C.answers("told apart", costs, 1, 2, 3, 4, 5);
        C.behind(names + ";person p honest comes 0 at 0 patience 0 look 0 wants ", "aaaaaaa 1", 2);
    }

    private static void wholesOfThree() {
        C.sentence("WHOLES of 1 to 3 digits; of more digits the first of them");
        C.reads("house long 05 bell 040" + ALE + SAM + ANN, 1);
        C.reads("house long 005 bell 600" + ALE + SAM + ANN, 1);
        C.behind("house long ", "0005 bell 40", 1);
        C.behind("house long ", "5000 bell 40", 1);
        C.behind("house long 5 bell ", "1000", 1);
        C.behind("house long 5 bell ", "0600", 1);
        C.behind("house long 5 bell ", "999", 4);
        C.behind("house long ", "00", 4);
        C.behind("house long ", "000", 4);
        C.behind("house ", "0000", 1);
        C.behind("", "1234567890".repeat(20), 1);
        // A WORD that has the same worth as a WHOLE is none.
        C.behind("house long ", "e bell 40", 1);
        C.behind(HOUSE + ";drink a takes 1 then 1 costs 1" + SAM + ";person p honest comes 0 at 0 patience 0 look 0 wants ", "1 1", 1);
    }

    private static void singleOnes() {
        C.sentence("single ones of ; ,");
        C.behind(START + ";", ";person", 1);
        C.behind(START + ",", ",gin 1", 1);
        C.behind(START + ";", ",gin 1", 1);
        C.behind(START + ",", ";", 1);
        C.behind("", ";" + START, 1);
        C.behind(START + ";", "", 1);
        C.behind(START + ",", "", 1);
    }

    // ---- bounds

    /** A WHOLE may be told from one bound up to the other, and is out of them beyond. */
    private static void bounds(String before, int low, int high, String behind) {
        int people = (before + behind).split(";person").length - 1;
        for (int n = 0; n <= high + 1; n = n == low ? Math.max(n + 1, high) : n + 1) {
            if (n >= low && n <= high) {
                C.reads(before + n + behind, people);
            } else {
                C.behind(before, n + behind, 4);
            }
        }
        C.behind(before, "999" + behind, 4);
        C.behind(before, "1000" + behind, 1);
        C.behind(before, "-1" + behind, 1);
        C.behind(before, "many" + behind, 1);
        C.behind(before, behind.isEmpty() ? "" : ";", 1);
    }

    private static void houseBounds() {
        String rest = ALE + staff("s", "row", 0, 0, 0) + man("p", "honest", 0, 0, 0, 0, "ale 1");
        C.sentence("house: long 1 .. 20: PLACES from 0 on");
        bounds("house long ", 1, 20, " bell 40" + rest);
        C.answers("one place", new int[] {Checks.bar("house long 1 bell 40" + rest).size(0), Checks.bar("house long 20 bell 40" + rest).size(0)}, 1, 20);
        C.sentence("house: bell 1 .. 600");
        bounds("house long 1 bell ", 1, 600, rest);
        C.answers("bells", new int[] {Checks.bar("house long 1 bell 1" + rest).size(1), Checks.bar("house long 1 bell 600" + rest).size(1)}, 1, 600);
    }

    private static void drinkBounds() {
        String rest = SAM + man("p", "honest", 0, 0, 600, 0, "d 2");
        C.sentence("drink: takes 1 .. 90");
        bounds(HOUSE + ";drink d takes ", 1, 90, " then 0 costs 0" + rest);
        C.sentence("drink: then 0 up to that");
        bounds(HOUSE + ";drink d takes 1 then ", 0, 1, " costs 0" + rest);
        bounds(HOUSE + ";drink d takes 7 then ", 0, 7, " costs 0" + rest);
        bounds(HOUSE + ";drink d takes 90 then ", 0, 90, " costs 0" + rest);
        C.sentence("drink: costs 0 .. 99");
        bounds(HOUSE + ";drink d takes 7 then 7 costs ", 0, 99, rest);
        NextAtBar x = Checks.bar(HOUSE + ";drink d takes 90 then 90 costs 99" + rest);
        C.answers("the most", new int[] {x.time(0, 0), x.costs(0)}, 180, 198);
        NextAtBar y = Checks.bar(HOUSE + ";drink d takes 1 then 0 costs 0" + rest);
        C.answers("the least", new int[] {y.time(0, 0), y.costs(0)}, 1, 0);
    }

    private static void staffBounds() {
        String man = man("p", "honest", 0, 0, 600, 0, "ale 1");
        String one = "house long 1 bell 40" + ALE;
        String five = HOUSE + ALE;
        String twenty = "house long 20 bell 40" + ALE;
        C.sentence("staff: at a PLACE");
        bounds(one + ";staff s row at ", 0, 0, " from 0 to 0 step 0 hands 1" + man);
        bounds(five + ";staff s near at ", 0, 4, " from 0 to 0 step 0 hands 1" + man);
        bounds(twenty + ";staff s eye at ", 0, 19, " from 0 to 0 step 0 hands 1" + man);
        C.sentence("staff: from PLACE to PLACE, the second not below the first");
        bounds(one + ";staff s asked at 0 from ", 0, 0, " to 0 step 0 hands 1" + man);
        bounds(five + ";staff s regular at 0 from ", 0, 4, " to 4 step 0 hands 1" + man);
        bounds(five + ";staff s regular at 0 from 0 to ", 0, 4, " step 0 hands 1" + man);
        bounds(five + ";staff s regular at 0 from 2 to ", 2, 4, " step 0 hands 1" + man);
        bounds(five + ";staff s regular at 0 from 4 to ", 4, 4, " step 0 hands 1" + man);
        bounds(twenty + ";staff s regular at 0 from 19 to ", 19, 19, " step 0 hands 1" + man);
        C.sentence("staff: step 0 .. 9");
        bounds(five + ";staff s row at 4 from 0 to 4 step ", 0, 9, " hands 1" + man);
        C.sentence("staff: hands 1, 2");
        bounds(five + ";staff s row at 4 from 0 to 4 step 0 hands ", 1, 2, man);
        C.sentence("staff: RULE: row, near, eye, asked, or regular");
        for (String rule : KEYS) {
            boolean is = Model.RULES.contains(rule);
            String text = five + ";staff s ";
            if (is) {
                C.reads(text + rule + " at 0 from 0 to 0 step 0 hands 1" + man, 1);
            } else {
                C.behind(text, rule + " at 0 from 0 to 0 step 0 hands 1" + man, 1);
            }
        }
    }

    private static void personBounds() {
        String rest = " look 0 wants ale 1";
        String come = " comes 0 at 0 patience 0" + rest;
        String liar = START + ";person p liar ";
        C.sentence("person: liar, polite 1 .. 99");
        bounds(liar, 1, 99, come);
        bounds(START + ";person p polite ", 1, 99, come);
        C.answers("said", new int[] {Checks.bar(liar + 1 + come).told(1, 1), Checks.bar(liar + 99 + come).told(1, 1)}, 1, 99);
        C.sentence("person: honest, regular (no WHOLE)");
        C.behind(START + ";person p honest ", "5" + come, 1);
        C.behind(START + ";person p regular ", "5" + come, 1);
        C.behind(liar.trim() + " ", "comes 0", 1);
        C.sentence("person: MANNER: honest, liar, polite, or regular");
        for (String manner : KEYS) {
            int index = Model.MANNERS.indexOf(manner);
            if (index < 0) {
                C.behind(START + ";person p ", manner + " 5" + come, 1);
            } else {
                C.due(manner, Checks.bar(START + ";person p " + manner + (index % 3 == 0 ? "" : " 5") + come).told(1, 0), index);
            }
        }
        C.sentence("person: comes 0 up to the bell");
        bounds(START + ";person p honest comes ", 0, 40, " at 0 patience 0" + rest);
        bounds("house long 1 bell 1" + ALE + staff("s", "row", 0, 0, 0) + ";person p honest comes ", 0, 1, " at 0 patience 0" + rest);
        bounds("house long 1 bell 600" + ALE + staff("s", "row", 0, 0, 0) + ";person p honest comes ", 0, 600, " at 0 patience 0" + rest);
        C.sentence("person: at a PLACE");
        bounds(START + ";person p honest comes 0 at ", 0, 4, " patience 0" + rest);
        C.sentence("person: patience 0 .. 600");
        bounds(START + ";person p honest comes 0 at 0 patience ", 0, 600, rest);
        C.sentence("person: look 0 .. 99");
        bounds(START + ";person p honest comes 0 at 0 patience 0 look ", 0, 99, " wants ale 1");
        C.sentence("person: 1 .. 9 glasses");
        bounds(WANTS + "ale ", 1, 9, "");
        bounds(WANTS + "ale 9,gin ", 1, 9, "");
        NextAtBar x = Checks.bar(liar + "99 comes 40 at 4 patience 600 look 99 wants gin 9,ale 1");
        C.answers("the most of all", new int[] {x.told(1, 0), x.told(1, 1), x.told(1, 2), x.told(1, 3), x.told(1, 4), x.told(1, 5), x.wants(1, 0),
            x.wants(1, 1)}, 1, 99, 40, 4, 600, 99, 1, 9);
    }

    private static void shelfBounds() {
        C.sentence("shelf: ready 0 up to the bell");
        bounds(START + ";shelf ann ready ", 0, 40, "");
        C.answers("told", new int[] {Checks.bar(START + ";shelf ann ready 0").told(0, 6), Checks.bar(START + ";shelf ann ready 40").told(0, 6),
            Checks.bar(START).told(0, 6)}, 0, 40, -2);
    }

    // ---- how many

    private static String people(int n) {
        return times(n, ";person p", " honest comes 0 at 0 patience 0 look 0 wants da 1");
    }

    private static void howMany() {
        String line = " takes 1 then 1 costs 1";
        String one = HOUSE + times(1, ";drink d", line) + staff("s", "row", 0, 0, 0);
        C.sentence("drink: up to 5");
        C.reads(HOUSE + times(5, ";drink d", line) + staff("s", "row", 0, 0, 0) + people(1), 1);
        C.behind(HOUSE + times(5, ";drink d", line) + ";", "drink e takes 1 then 1 costs 1", 5);
        C.sentence("staff: up to 3");
        String three = times(3, ";staff s", " row at 0 from 0 to 0 step 0 hands 1");
        C.reads(HOUSE + times(1, ";drink d", line) + three + people(1), 1);
        C.behind(HOUSE + times(1, ";drink d", line) + three + ";", "staff e row at 0 from 0 to 0 step 0 hands 1", 5);
        C.sentence("person: up to 10");
        C.reads(one + people(10), 10);
        C.behind(one + people(10) + ";", "person e honest comes 0 at 0 patience 0 look 0 wants da 1", 5);
        C.sentence("shelf: once for each, so for all ten");
        C.due("ten", Checks.bar(one + people(10) + times(10, ";shelf p", " ready 9")).size(5), 10);
        C.behind(one + people(10) + times(10, ";shelf p", " ready 9") + ";shelf ", "pj ready 9", 3);
        C.sentence("says: up to 8");
        String eight = ";says pa pa before pb".repeat(8);
        C.due("eight", Checks.bar(one + people(2) + eight).size(6), 8);
        C.behind(one + people(2) + eight + ";", "says pa pa before pb", 5);
        C.sentence("5 MANY: at its first WORD, whatever comes behind it");
        for (String more : new String[] {"", " ", " 5", ";", " da", " zz takes 100", " house", "!"}) {
            C.behind(HOUSE + times(5, ";drink d", line) + ";", "drink" + more, 5);
            C.behind(HOUSE + three + ";", "staff" + more, 5);
            C.behind(one + people(10) + " ; ", "person" + more, 5);
            C.behind(one + people(2) + eight + ";  ", "says" + more, 5);
        }
    }

    private static void threeDrinks() {
        String drinks = times(5, ";drink d", " takes 1 then 1 costs 1") + SAM;
        String wants = HOUSE + drinks + ";person p honest comes 0 at 0 patience 0 look 0 wants ";
        C.sentence("person: up to 3 of these DRINKS");
        NextAtBar x = Checks.bar(wants + "de 1,da 2,dc 3");
        C.answers("three", new int[] {x.wants(0, 0), x.wants(0, 1), x.wants(0, 2), x.wants(0, 3), x.wants(0, 4)}, 2, 0, 3, 0, 1);
        C.answers("of five drinks", new int[] {x.time(0, 0), x.costs(0)}, 6, 6);
        C.sentence("5 MANY: a fourth DRINK: at it");
        C.behind(wants + "da 1,db 1,dc 1,", "dd 1", 5);
        C.behind(wants + "da 1,db 1,dc 1, ", "dd", 5);
        C.behind(wants + "da 1,db 1,dc 1,", "dd 0,de 1", 5);
        C.sentence("of one place the least number: a fourth DRINK");
        C.behind(wants + "da 1,db 1,dc 1,", "zz 1", 2);
        C.behind(wants + "da 1,db 1,dc 1,", "sam 1", 2);
        C.behind(wants + "da 1,db 1,dc 1,", "p 1", 2);
        C.behind(wants + "da 1,db 1,dc 1,", "db 1", 3);
        C.behind(wants + "da 1,db 1,dc 1,", "says 1", 1);
        C.behind(wants + "da 1,db 1,dc 1,", "7", 1);
        C.behind(wants + "da 1,db 1,dc 1,", "", 1);
        C.behind(wants + "da 1,db 1,dc 1 ,  ", "", 1);
        C.behind(wants + "da 1,db 1,dc 1,", "abcdefghi", 1);
    }

    // ---- names

    private static void namesAreWordsBut() {
        C.sentence("NAMES are WORDS but house, drink, staff, person, shelf, says");
        for (String w : LINE_WORDS) {
            C.behind(HOUSE + ";drink ", w + " takes 1 then 1 costs 1", 1);
            C.behind(HOUSE + ";staff ", w + " row at 0", 1);
            C.behind(START + ";person ", w + " honest comes 0", 1);
            C.behind(WANTS, w + " 1", 1);
            C.behind(WANTS + "ale 1,", w + " 1", 1);
            C.behind(START + ";shelf ", w + " ready 1", 1);
            C.behind(START + ";says ", w + " ann before ann", 1);
            C.behind(START + ";says ann ", w + " before ann", 1);
            C.behind(START + ";says ann ann before ", w, 1);
        }
        C.sentence("NAMES may be any other WORD of a LINE");
        for (String w : KEYS) {
            C.reads(HOUSE + ";drink " + w + " takes 1 then 1 costs 1" + SAM + man("p", "honest", 0, 0, 0, 0, w + " 1"), 1);
            C.reads(HOUSE + ALE + ";staff " + w + " row at 0 from 0 to 0 step 0 hands 1" + ANN, 1);
            C.reads(START + man(w, "liar 3", 0, 0, 0, 0, "ale 1") + ";shelf " + w + " ready 1;says " + w + " " + w + " before ann", 2);
        }
        for (String w : new String[] {"hous", "houses", "drinks", "staffs", "persons", "say", "sai", "shelv", "a", "b"}) {
            C.reads(START + man(w, "polite 3", 0, 0, 0, 0, "ale 1"), 2);
        }
    }

    private static void namesToldOnce() {
        C.sentence("3 a NAME told again; at it (of whatever sort)");
        String text = START + ";shelf ann ready 1";
        for (String name : new String[] {"ale", "gin", "sam", "ann"}) {
            C.behind(text + ";drink ", name + " takes 1 then 1 costs 1", 3);
            C.behind(text + ";staff ", name + " row at 0 from 0 to 0 step 0 hands 1", 3);
            C.behind(text + ";person ", name + " honest comes 0", 3);
            C.behind(text + ";person ", name, 3);
        }
    }

    private static void namesAheadOfTheirUse() {
        C.sentence("2 a NAME that isn't told (ahead of its use)");
        C.behind(WANTS, "rum 1;drink rum takes 1 then 1 costs 1", 2);
        C.behind(WANTS + "ale 1,", "rum 1;drink rum takes 1 then 1 costs 1", 2);
        C.behind(START + ";shelf ", "bob ready 1" + man("bob", "honest", 0, 0, 0, 0, "ale 1"), 2);
        C.behind(START + ";says ", "bob ann before ann" + man("bob", "honest", 0, 0, 0, 0, "ale 1"), 2);
        C.behind(START + ";says ann ", "bob before ann" + man("bob", "honest", 0, 0, 0, 0, "ale 1"), 2);
        C.behind(START + ";says ann ann before ", "bob" + man("bob", "honest", 0, 0, 0, 0, "ale 1"), 2);
        C.behind(WANTS, "rum", 2);
        C.behind(START + ";shelf ", "rum", 2);
    }

    private static void namesOfAnotherSort() {
        C.sentence("2 of another sort than must stand there; at it");
        for (String name : new String[] {"sam", "ann", "p"}) {
            C.behind(WANTS, name + " 1", 2);
            C.behind(WANTS + "gin 9 , ", name + " 1", 2);
        }
        for (String name : new String[] {"ale", "gin", "sam"}) {
            C.behind(START + ";shelf ", name + " ready 1", 2);
            C.behind(START + ";says ", name + " ann before ann", 2);
            C.behind(START + ";says ann ", name + " before ann", 2);
            C.behind(START + ";says ann ann before ", name, 2);
        }
    }

    private static void wantedAlready() {
        C.sentence("3 a DRINK that he wants already");
        C.behind(WANTS + "ale 1,", "ale 1", 3);
        C.behind(WANTS + "ale 1,gin 1,", "ale 1", 3);
        C.behind(WANTS + "ale 1,gin 1,", "gin 1", 3);
        C.behind(WANTS + "ale 1 , ", "ale", 3);
        // Another one may want it.
        C.reads(WANTS + "ale 2,gin 2" + man("q", "honest", 0, 0, 0, 0, "gin 1,ale 1"), 3);
    }

    private static void shelfAlready() {
        C.sentence("3 one who has a shelf already");
        C.behind(NEXT_MAN + ";shelf ann ready 3;shelf ", "ann ready 3", 3);
        C.behind(NEXT_MAN + ";shelf ann ready 0;shelf p ready 0;shelf ", "ann", 3);
        C.reads(NEXT_MAN + ";shelf p ready 0;shelf ann ready 0", 2);
    }

    private static void thirdPersonOfSays() {
        C.sentence("3 a third PERSON of says that is the second (the last two unlike)");
        C.behind(NEXT_MAN + ";says ann p before ", "p", 3);
        C.behind(NEXT_MAN + ";says p p before ", "p", 3);
        C.reads(NEXT_MAN + ";says p p before ann", 2);
        C.reads(NEXT_MAN + ";says p ann before p", 2);
        C.reads(NEXT_MAN + ";says p ann before p;says p ann before p;says p p before ann", 2);
    }

    private static void secondHouse() {
        C.sentence("3 a second house: at that WORD");
        C.behind(HOUSE + ";", "house long 5 bell 40", 3);
        C.behind(HOUSE + " ;  ", "house", 3);
        C.behind(HOUSE + ";", "house!", 3);
        C.behind(START + ";", "house 9", 3);
    }

    // ---- form, lacks, which fault

    private static final String FULL = HOUSE + " ; drink ale takes 4 then 1 costs 3 ; drink gin takes 6 then 0 costs 7"
        + " ; staff sam asked at 2 from 0 to 4 step 1 hands 1 ; person ann honest comes 0 at 2 patience 50 look 10 wants ale 2 , gin 1"
        + " ; person bob liar 9 comes 2 at 0 patience 50 look 20 wants gin 1 ; shelf ann ready 3 ; says ann ann before bob";

    private static String first(String[] tokens, int n) {
        StringBuilder b = new StringBuilder();
        for (int i = 0; i < n; i++) {
            b.append(i > 0 ? " " : "").append(tokens[i]);
        }
        return b.toString();
    }

    private static void endsEverywhere() {
        C.sentence("1 FORM: the end, with which no HOUSE goes on: its place; 6 LACKS at the end");
        String[] tokens = FULL.split(" ");
        C.reads(FULL, 2);
        for (int n = 0; n < tokens.length; n++) {
            String text = first(tokens, n);
            boolean whole = tokens[n].equals(";") || tokens[n].equals(",");
            int people = text.split("person").length - 1;
            for (String blanks : new String[] {"", " ", "    "}) {
                if (!whole) {
                    C.behind(text + blanks, "", 1);
                } else if (people == 0) {
                    C.behind(text + blanks, "", 6);
                } else {
                    C.reads(text + blanks, people);
                }
            }
        }
    }

    private static void wrongTokenEverywhere() {
        C.sentence("1 FORM: TOKEN with which no HOUSE goes on");
        String[] tokens = FULL.split(" ");
        for (int n = 0; n < tokens.length; n++) {
            String text = first(tokens, n) + (n > 0 ? " " : "");
            String token = tokens[n];
            boolean sign = token.equals(";") || token.equals(",");
            boolean digits = Character.isDigit(token.charAt(0));
            C.behind(text, "!" + token, 1);
            C.behind(text, "? ; house", 1);
            C.behind(text, "1234", 1);
            C.behind(text, "abcdefghi", 1);
            if (!digits) {
                C.behind(text, "7 " + token, 1);
            }
            if (!sign) {
                C.behind(text, "; " + token, 1);
                C.behind(text, ", " + token, 1);
            }
            if (sign || digits) {
                C.behind(text, "ale", 1);
                C.behind(text, "person", 1);
            }
            boolean name = "ale gin sam ann bob".contains(token);
            boolean line = n == 0 || tokens[n - 1].equals(";");
            if (!sign && !digits && !name) {
                C.behind(text, "zzz", 1);
                C.behind(text, token + "s 5", 1);
                C.behind(text, token.substring(1) + " 5", 1);
                if (!line) {
                    C.behind(text, "staff", 1);
                }
            }
        }
    }

    private static void aheadOfTheHouse() {
        C.sentence("6 LACKS: any LINE ahead of the house; at its WORD (house ahead of all others)");
        for (String w : new String[] {"drink", "staff", "person", "shelf", "says"}) {
            C.behind("", w, 6);
            C.behind("   ", w + " 5;" + START, 6);
            C.behind("", w + "!", 6);
        }
        C.behind("", ALE.substring(1) + ";" + START, 6);
        C.sentence("1 FORM: what begins no LINE, ahead of the house");
        for (String w : KEYS) {
            C.behind(" ", w + " 5", 1);
        }
    }

    private static void lacksAtTheEnd() {
        C.sentence("6 LACKS: at the end: no drink, no staff, no person");
        for (String blanks : new String[] {"", "  "}) {
            C.behind(HOUSE + blanks, "", 6);
            C.behind(HOUSE + ALE + blanks, "", 6);
            C.behind(HOUSE + SAM + blanks, "", 6);
            C.behind(HOUSE + ALE + SAM + blanks, "", 6);
            C.behind(HOUSE + ALE + ANN + blanks, "", 6);
            C.behind(HOUSE + ALE + ANN + ";shelf ann ready 0" + blanks, "", 6);
        }
        C.reads(HOUSE + ALE + SAM + ANN, 1);
        C.reads(HOUSE + ALE + ANN + SAM, 1);
        C.reads(HOUSE + SAM + ALE + ANN, 1);
        C.sentence("of one place the least number: 1 at the end ahead of 6");
        C.behind("", "", 1);
        C.behind("    ", "", 1);
        C.behind(HOUSE + ";", "", 1);
        C.behind(HOUSE + ALE + ";", "", 1);
    }

    private static void firstFromTheLeft() {
        C.sentence("FAULTS, the first that is met from the left");
        C.behind("house long ", "0 bell 0;drink !", 4);
        C.behind("house long ", "5000 bell 0", 1);
        C.behind("house long 5 ", "! bell 0", 1);
        C.behind("", "drink 5 !", 6);
        C.behind(HOUSE + ";", "house long 0", 3);
        C.behind(HOUSE + ";drink ale takes ", "91 then 91 costs 100", 4);
        C.behind(WANTS, "rum 0,rum 10", 2);
        C.behind(WANTS + "ale ", "0,ale 1", 4);
        C.behind(START + ";person ", "ann rude comes 99", 3);
        C.behind(START + ";staff tim ", "fast at 9", 1);
        C.behind(START + ";staff tim row at ", "9 from 9 to 0", 4);
        C.behind(START + ";shelf ", "bob ready 99", 2);
        C.behind(START + ";shelf ann ready ", "41;shelf ann", 4);
        C.behind(START + ";says ", "bob bob before bob", 2);
        C.behind(START + ";says ann ann before ", "ann ann", 3);
    }

    // ---- fault and where

    private static void faultOfTheLatest() {
        C.sentence("fault: of the latest house() not refused by 2; 0 without one");
        NextAtBar x = new NextAtBar();
        C.due("at first", x.fault(), 0);
        x.house(1);
        C.due("behind a 2", x.fault(), 0);
        for (String text : new String[] {"!", WANTS + "rum", HOUSE + ";house", "house long 0", START + ";says ann ann before ann"}) {
            Checks.house(x, text);
            int fault = x.fault();
            C.due("some fault", fault >= 1 && fault <= 4, true);
            x.house(1);
            x.house(-1);
            C.due("stays behind a 2", x.fault(), fault);
            x.pass(1);
            x.waiting();
            C.due("stays behind other calls", x.fault(), fault);
        }
        Checks.house(x, START);
        C.due("gone", x.fault(), 0);
        x.house(9);
        C.due("none, behind a 2", x.fault(), 0);
    }

    private static void whereOfTheLatest() {
        C.sentence("where: if the latest call that may be refused was by 4; NONE else");
        NextAtBar x = new NextAtBar();
        C.due("at first", x.where(), NONE);
        Checks.house(x, HOUSE);
        int end = HOUSE.length();
        C.answers("twice", new int[] {x.where(), x.where()}, end, end);
        x.feed(0, 0, 0, 0, 0);
        x.fault();
        x.size(0);
        x.size(99);
        x.trouble();
        throwsNone(x, 0);
        C.due("behind calls that can't be refused", x.where(), end);
        x.waiting();
        C.answers("behind a refused one", new int[] {x.where(), x.trouble(), x.fault()}, NONE, 1, 6);
        Checks.house(x, "!");
        C.due("at 0", x.where(), 0);
        x.house(999);
        C.due("behind a 2", x.where(), NONE);
        x.house(0);
        Checks.house(x, "   !");
        C.due("at 3", x.where(), 3);
        Checks.house(x, START);
        C.due("behind a house", x.where(), NONE);
        Checks.house(x, START + "!");
        C.due("at the end", x.where(), START.length());
        x.waiting();
        C.answers("behind one that wasn't refused", new int[] {x.where(), x.trouble()}, NONE, 0);
    }

    private static void newObject() {
        C.sentence("Promise 1: no HOUSE");
        NextAtBar x = new NextAtBar();
        for (int what = 0; what <= 10; what++) {
            C.due("size " + what, x.size(what), 0);
        }
        C.answers("nothing", new int[] {x.fault(), x.where(), x.trouble(), x.size(-1), x.size(11), NextAtBar.NONE}, 0, NONE, 0, NONE, NONE, -1);
        // Objects have nothing of one another.
        NextAtBar y = Checks.bar(START);
        C.answers("still nothing", new int[] {x.size(0), x.size(4), y.size(4), x.size(10)}, 0, 0, 1, 0);
    }

    public static void main(String[] args) {
        newObject();
        tapeHasAThousandBytes();
        moreIsRefused();
        highestByteFirst();
        feedsFollowOneAnother();
        firstBytes();
        numbersOfBytes();
        noBytes();
        tapeIsEmptyThen();
        houseStays();
        fromNowOn();
        blanksPart();
        everyByte();
        wordsOfEight();
        wholesOfThree();
        singleOnes();
        houseBounds();
        drinkBounds();
        staffBounds();
        personBounds();
        shelfBounds();
        howMany();
        threeDrinks();
        namesAreWordsBut();
        namesToldOnce();
        namesAheadOfTheirUse();
        namesOfAnotherSort();
        wantedAlready();
        shelfAlready();
        thirdPersonOfSays();
        secondHouse();
        endsEverywhere();
        wrongTokenEverywhere();
        aheadOfTheHouse();
        lacksAtTheEnd();
        firstFromTheLeft();
        faultOfTheLatest();
        whereOfTheLatest();
        C.end();
    }
}
