import java.nio.charset.StandardCharsets;

/**
 * What the tests of the document's edges share. Each of their methods quotes the sentence of the document
 * that it holds the class to, and asks on both sides of the edge. No object is asked more than 512 times.
 */
class Edges {
    static final int NONE = NamedAgain.NONE;
    static final int SHUT_OUT = -100000;
    static final int LEAST = Integer.MIN_VALUE;
    static final int GREATEST = Integer.MAX_VALUE;

    private static int wrong = 0;
    private static int asked = 0;
    private static String sentence = "";

    /** Names the sentence that the calls from here on are about. */
    static void sentence(String words) {
        sentence = words;
    }

    static void due(String what, long want, long got) {
        asked++;
        if (want != got) {
            wrong++;
            System.out.println("\"" + sentence + "\": " + what + " answered " + got + ", due is " + want);
        }
    }

    static void yes(String what, boolean got) {
        due(what, 1, got ? 1 : 0);
    }

    static void no(String what, boolean got) {
        due(what, 0, got ? 1 : 0);
    }

    static void end() {
        System.out.println(wrong == 0 ? asked + " answers are as due" : wrong + " answers of " + asked + " are wrong");
        if (wrong != 0) {
            System.exit(1);
        }
    }

    /** The numbers outside of least to greatest: the next ones, and the farthest. */
    static int[] outside(int least, int greatest) {
        return new int[] {least - 1, greatest + 1, least - 1000, greatest + 1000, LEAST, GREATEST};
    }

    static NamedAgain house(int missing, int found) {
        NamedAgain x = new NamedAgain();
        for (int i = 0; i < missing; i++) {
            x.file(0);
        }
        for (int i = 0; i < found; i++) {
            x.file(1);
        }
        return x;
    }

    /** Feeds a text, filled up with blanks to twenties. */
    static void feedText(NamedAgain x, String text) {
        byte[] bytes = text.getBytes(StandardCharsets.ISO_8859_1);
        for (int start = 0; start < bytes.length; start += 20) {
            int[] five = new int[5];
            for (int i = 0; i < 20; i++) {
                int b = start + i < bytes.length ? bytes[start + i] & 255 : ' ';
                five[i / 4] = five[i / 4] << 8 | b;
            }
            x.feed(five[0], five[1], five[2], five[3], five[4]);
        }
    }

    static int lawOf(NamedAgain x, String text) {
        feedText(x, text);
        return x.law(text.length());
    }

    /** A found one and a missing one know the same of a mark: 5 points where the law says nothing else. */
    static void alike(NamedAgain x, int found, int missing, int mark, int value) {
        x.mark(1, found, mark, value);
        x.mark(0, missing, mark, value);
    }

    /** Gives a pair, which must have points, its name whatever the law was: the law stays "need 0; margin 0; seals 1;". */
    static void name(NamedAgain x, int found, int missing) {
        lawOf(x, "need 0; margin 0; seals 1;");
        x.seal(found, missing, 0);
        due("the name that the test gives", missing, x.give(found));
    }
}
