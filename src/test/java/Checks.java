/** What the tests of the project share: feeding a text, and counting answers that are not the ones due. */
final class Checks {
    private int wrong;
    private int asked;

    void due(String what, long got, long want) {
        asked++;
        if (got != want) {
            wrong++;
            if (wrong <= 40) {
                System.out.println(what + " answered " + got + ", due is " + want);
            }
        }
    }

    void due(String what, boolean got, boolean want) {
        due(what, got ? 1 : 0, want ? 1 : 0);
    }

    int wrong() {
        return wrong;
    }

    void end() {
        System.out.println(wrong == 0 ? asked + " answers are as due" : wrong + " of " + asked + " answers are not as due");
        if (wrong != 0) {
            System.exit(1);
        }
    }

    /** The numbers of feed() for a text, filled up with blanks to whole twenties. */
    static int[] numbers(String text) {
        StringBuilder filled = new StringBuilder(text);
        while (filled.length() % 20 != 0) {
            filled.append(' ');
        }
        int[] numbers = new int[filled.length() / 4];
        for (int i = 0; i < filled.length(); i++) {
            numbers[i / 4] = numbers[i / 4] << 8 | filled.charAt(i) & 255;
        }
        return numbers;
    }

    static void feed(NextAtBar x, String text) {
        int[] n = numbers(text);
        for (int i = 0; i < n.length; i += 5) {
            x.feed(n[i], n[i + 1], n[i + 2], n[i + 3], n[i + 4]);
        }
    }

    static int house(NextAtBar x, String text) {
        feed(x, text);
        return x.house(text.length());
    }

    static NextAtBar bar(String text) {
        NextAtBar x = new NextAtBar();
        if (house(x, text) == NextAtBar.NONE) {
            throw new IllegalArgumentException("fault " + x.fault() + " at " + x.where() + ": " + text);
        }
        return x;
    }
}
