import java.util.NoSuchElementException;

/** Houses for tests, told shortly. */
abstract class Bars {
    static final int NONE = NextAtBar.NONE;

    static final String HOUSE = "house long 5 bell 40";
    static final String ALE = ";drink ale takes 4 then 1 costs 3";
    static final String GIN = ";drink gin takes 6 then 0 costs 7";
    static final String SAM = ";staff sam asked at 2 from 0 to 4 step 1 hands 1";
    static final String ANN = ";person ann honest comes 0 at 2 patience 50 look 10 wants ale 2";
    static final String START = HOUSE + ALE + GIN + SAM + ANN;

    // Sam begins with ann at 0 (till 5), bob at 5 (2 steps, 6: till 13), cat at 13 (4 steps, 4: till 21);
    // eve has her shelf at 9, dan gives up at 9.
    static final String EVENING = START
        + ";person bob liar 9 comes 2 at 0 patience 50 look 20 wants gin 1"
        + ";person cat polite 3 comes 1 at 4 patience 50 look 30 wants ale 1,gin 2"
        + ";person dan regular comes 3 at 2 patience 6 look 40 wants gin 1"
        + ";person eve honest comes 2 at 1 patience 50 look 98 wants ale 3;shelf eve ready 9"
        + ";says ann ann before bob;says bob bob before cat;says bob eve before dan";

    /** A house of one drink (takes, then), staff and people as they are told. */
    static String plain(int places, int bell, int takes, int then, String more) {
        return "house long " + places + " bell " + bell + ";drink x takes " + takes + " then " + then + " costs 1" + more;
    }

    static String staff(String name, String rule, int at, int from, int to) {
        return staff(name, rule, at, from, to, 0, 1);
    }

    static String staff(String name, String rule, int at, int from, int to, int step, int hands) {
        return ";staff " + name + " " + rule + " at " + at + " from " + from + " to " + to + " step " + step + " hands "
            + hands;
    }

    static String man(String name, String manner, int comes, int at, int patience, int look) {
        return man(name, manner, comes, at, patience, look, "x 1");
    }

    static String man(String name, String manner, int comes, int at, int patience, int look, String wants) {
        return ";person " + name + " " + manner + " comes " + comes + " at " + at + " patience " + patience + " look "
            + look + " wants " + wants;
    }

    /** The same so many times, each with a letter of its own. */
    static String times(int n, String before, String behind) {
        StringBuilder b = new StringBuilder();
        for (int i = 0; i < n; i++) {
            b.append(before).append((char) ('a' + i)).append(behind);
        }
        return b.toString();
    }

    static boolean throwsNone(NextAtBar x, int i) {
        try {
            x.led(i);
            return false;
        } catch (NoSuchElementException e) {
            return true;
        }
    }
}
