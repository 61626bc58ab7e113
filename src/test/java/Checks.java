/** What the tests of the project share: feeding a text, and counting answers that are not the ones due. */
final class Checks {
    private int wrong;
    private int asked;
    private int sentences;
    private String sentence = "";

    /** From here on a sentence of the document is tested, and no other. */
    void sentence(String words) {
        sentence = words + ": ";
        sentences++;
    }

    void due(String what, long got, long want) {
        asked++;
        if (got != want) {
            wrong++;
            if (wrong <= 40) {
                System.out.println(sentence + what + " answered " + got + ", due is " + want);
            }
        }
    }

    void due(String what, boolean got, boolean want) {
        due(what, got ? 1 : 0, want ? 1 : 0);
    }

    void answers(String what, int[] got, int... want) {
        due(what + " length", got.length, want.length);
        for (int i = 0; i < got.length && i < want.length; i++) {
            due(what + " [" + i + "]", got[i], want[i]);
        }
    }

    void reads(String text, int people) {
        NextAtBar x = new NextAtBar();
        int got = house(x, text);
        due("house (fault " + x.fault() + " at " + x.where() + ") " + text, got, people);
        due("trouble " + text, x.trouble(), 0);
    }

    void faultIs(String text, int fault, int place) {
        NextAtBar x = new NextAtBar();
        due("house " + text, house(x, text), NextAtBar.NONE);
        due("trouble " + text, x.trouble(), 4);
        due("fault " + text, x.fault(), fault);
        due("where " + text, x.where(), place);
    }

    /** A fault at the first byte of what is put behind the text. */
    void behind(String text, String more, int fault) {
        faultIs(text + more, fault, text.length());
    }

    int wrong() {
        return wrong;
    }

    void end() {
        String what = (sentences > 0 ? sentences + " sentences, " : "") + asked + " answers";
        System.out.println(wrong == 0 ? what + " are as due" : wrong + " of " + what + " are not as due");
        if (wrong != 0) {
            System.exit(1);
        }
    }

    /** The numbers of feed() for a text, filled up with blanks to whole twenties. */
    static int[] numbers(String text) {
        StringBuilder filled = new StringBuilder(text);
        while (filled.length() % 20 != 0) {
            filled.append(' ');
        }
        int[] numbers = new int[filled.length() / 4];
        for (int i = 0; i < filled.length(); i++) {
            numbers[i / 4] = numbers[i / 4] << 8 | filled.charAt(i) & 255;
        }
        return numbers;
    }

    static void feed(NextAtBar x, String text) {
        int[] n = numbers(text);
        for (int i = 0; i < n.length; i += 5) {
            x.feed(n[i], n[i + 1], n[i + 2], n[i + 3], n[i + 4]);
        }
    }

    static int house(NextAtBar x, String text) {
        if (text.length() > 1000 - x.size(10)) {
            throw new IllegalArgumentException("too long a text for the tape: " + text);
        }
        feed(x, text);
        return x.house(text.length());
    }

    static NextAtBar bar(String text) {
        NextAtBar x = new NextAtBar();
        if (house(x, text) == NextAtBar.NONE) {
            throw new IllegalArgumentException("fault " + x.fault() + " at " + x.where() + ": " + text);
        }
        return x;
    }
}
