import java.util.List;

/** The edges of promises 21 to 23 and of what the terms say of THE LAW. */
public final class EdgesOfLawTest extends Edges {
    private static final String[] WITH_IS = {"tooth", "mark", "tissue"};
    private static final String[] WITHOUT_IS = {"parent", "need", "margin", "seals"};

    public static void main(String[] args) {
        highestFirst();
        behindThoseThere();
        fiveHundredBytes();
        firstBytes();
        emptyThen();
        bytesThereAre();
        howManyStatements();
        oneToThreeDigits();
        firstNumbers();
        otherNumbers();
        everyByteAlone();
        everyByteBehindAWord();
        everyByteBehindANumber();
        tokensAsLongAsTheyGo();
        lettersOfWords();
        blanksBetween();
        noTextGoesOn();
        moreMustCome();
        twentyStatements();
        lawStays();
        inPlaceOfWhatWas();
        lastOfEach();
        elseGives();
        faultOfTheLatest();
        end();
    }

    private static void faulty(String text, int place) {
        NamedAgain x = new NamedAgain();
        due("law of '" + text + "'", NONE, lawOf(x, text));
        due("fault of '" + text + "'", place, x.fault());
        due("the tape after '" + text + "'", 0, x.count(7));
        due("NEED after '" + text + "'", 20, x.count(8));
        due("MARGIN after '" + text + "'", 5, x.count(9));
        due("SEALS after '" + text + "'", 2, x.count(10));
    }

    private static void lawful(String text, int statements) {
        NamedAgain x = new NamedAgain();
        due("law of '" + text + "'", statements, lawOf(x, text));
        due("fault of '" + text + "'", NONE, x.fault());
        due("the tape after '" + text + "'", 0, x.count(7));
    }

    /** The only good byte of each twenty stands in another place, the others are blanks. */
    private static void highestFirst() {
        sentence("of each number the highest first");
        for (int place = 0; place < 20; place++) {
            int[] five = {0x20202020, 0x20202020, 0x20202020, 0x20202020, 0x20202020};
            int shift = 24 - place % 4 * 8;
            five[place / 4] = five[place / 4] & ~(255 << shift) | 200 << shift;
            NamedAgain x = new NamedAgain();
            due("twenty", 20, x.feed(five[0], five[1], five[2], five[3], five[4]));
            due("a byte of 200", NONE, x.law(20));
            due("its place", place, x.fault());
        }
        NamedAgain y = new NamedAgain();
        y.feed(0x6e656564, 0x20313233, 0x3b6d6172, 0x67696e20, 0x3435363b);
        due("need 123;margin 456;", 2, y.law(20));
        due("need", 123, y.count(8));
        due("margin", 456, y.count(9));
    }

    private static void behindThoseThere() {
        sentence("Twenty bytes come behind those on the tape");
        NamedAgain x = new NamedAgain();
        due("the first", 20, x.feed(0x20202020, 0x20202020, 0x20202020, 0x20202020, 0x6e656564));
        due("the second", 40, x.feed(0x34323b20, 0x20202020, 0x20202020, 0x20202020, 0x2020206d));
        due("the third", 60, x.feed(0x61726769, 0x6e37373b, 0x20202020, 0x20202020, 0x20202020));
        due("two statements over the joints", 2, x.law(60));
        due("need", 42, x.count(8));
        due("margin", 77, x.count(9));
        due("from the start again", 20, x.feed(0x6e656564, 0x373b2020, 0x20202020, 0x20202020, 0x20202020));
        due("the new ones alone", 1, x.law(20));
        due("need then", 7, x.count(8));
    }

    private static void fiveHundredBytes() {
        sentence("NONE, doing nothing: there would be more than 500.");
        NamedAgain x = new NamedAgain();
        for (int i = 1; i <= 24; i++) {
            due("feed " + i, 20 * i, x.feed(0x20202020, 0x20202020, 0x20202020, 0x20202020, 0x20202020));
        }
        due("480", 480, x.count(7));
        due("up to 500", 500, x.feed(0x20202020, 0x20202020, 0x20202020, 0x20202020, 0x6e656564));
        due("more", NONE, x.feed(0x78787878, 0x78787878, 0x78787878, 0x78787878, 0x78787878));
        due("and more", NONE, x.feed(-1, -1, -1, -1, -1));
        due("500 still", 500, x.count(7));
        due("501 aren't there", -2, x.law(501));
        due("500 are", NONE, x.law(500));
        due("more must come", 500, x.fault());
        due("room again", 20, x.feed(0, 0, 0, 0, 0));
    }

    private static void firstBytes() {
        sentence("The first n bytes of the tape");
        String text = "need 12;margin 34;";
        int[] answers = {0, -1, -1, -1, -1, -1, -1, -1, 1, -1, -1, -1, -1, -1, -1, -1, -1, -1, 2, 2, 2};
        int[] faults = {-1, 0, 0, 0, 4, 5, 6, 7, -1, 8, 8, 8, 8, 8, 14, 15, 16, 17, -1, -1, -1};
        for (int n = 0; n <= 20; n++) {
            NamedAgain x = new NamedAgain();
            feedText(x, text);
            due("law of the first " + n, answers[n], x.law(n));
            due("fault in the first " + n, faults[n], x.fault());
            due("need by the first " + n, n == 8 || n >= 18 ? 12 : 20, x.count(8));
            due("margin by the first " + n, n >= 18 ? 34 : 5, x.count(9));
        }
        NamedAgain y = new NamedAgain();
        feedText(y, "need 123;");
        due("cut within a number", NONE, y.law(7));
        feedText(y, "need 1; x");
        due("what stands behind isn't read", 1, y.law(7));
        due("need", 1, y.count(8));
    }

    private static void emptyThen() {
        sentence("(which is empty then)");
        for (String text : List.of("need 1;", "need 1", "")) {
            for (int n = 0; n <= text.length(); n++) {
                NamedAgain x = new NamedAgain();
                feedText(x, text);
                feedText(x, "margin 7;");
                x.law(n);
                due("bytes after " + n + " of '" + text + "'", 0, x.count(7));
                due("no bytes to be read", -2, x.law(1));
                due("from the start", 20, x.feed(0, 0, 0, 0, 0));
            }
        }
    }

    private static void bytesThereAre() {
        sentence("-2, doing nothing: n is below 0 or more than there are.");
        NamedAgain x = new NamedAgain();
        due("0 of none", 0, x.law(0));
        due("1 of none", -2, x.law(1));
        due("-1 of none", -2, x.law(-1));
        feedText(x, "need 7;");
        for (int odd : outside(0, 20)) {
            due(odd + " of 20", -2, x.law(odd));
        }
        due("20 are there", 20, x.count(7));
        due("NEED stays", 20, x.count(8));
        due("all 20", 1, x.law(20));
        due("NEED then", 7, x.count(8));
        feedText(x, "need 8;             margin 9;");
        due("41 of 40", -2, x.law(41));
        due("40 are there", 40, x.count(7));
        due("40 of 40", 2, x.law(40));
    }

    private static void howManyStatements() {
        sentence("are THE LAW: how many statements");
        lawful("", 0);
        lawful(" ", 0);
        lawful("\n \n", 0);
        StringBuilder text = new StringBuilder();
        for (int many = 1; many <= 20; many++) {
            text.append("seals ").append(1 + many % 5).append(';');
            lawful(text.toString(), many);
        }
        for (String word : WITH_IS) {
            lawful(word + " 1 is 1;", 1);
        }
        for (String word : WITHOUT_IS) {
            lawful(word + " 1;", 1);
        }
    }

    private static void oneToThreeDigits() {
        sentence("NUMBER: one to three digits");
        for (String word : WITHOUT_IS) {
            int place = word.length() + 1;
            faulty(word + " ;", place);
            lawful(word + " 1;", 1);
            lawful(word + " 01;", 1);
            lawful(word + " 001;", 1);
            faulty(word + " 0001;", place);
            faulty(word + " 0000000000000000001;", place);
            faulty(word + " 4294967297;", place);
            faulty(word + " 1 1;", place + 2);
        }
        for (String word : WITH_IS) {
            int place = word.length() + 1;
            faulty(word + " is 1;", place);
            lawful(word + " 001 is 999;", 1);
            faulty(word + " 0001 is 1;", place);
            faulty(word + " 1 is ;", place + 5);
            lawful(word + " 1 is 000;", 1);
            faulty(word + " 1 is 0000;", place + 5);
            faulty(word + " 1 is 1000;", place + 5);
            faulty(word + " 4294967297 is 1;", place);
        }
        NamedAgain x = new NamedAgain();
        lawOf(x, "need 007; margin 070; seals 004;");
        due("007", 7, x.count(8));
        due("070", 70, x.count(9));
        due("004", 4, x.count(10));
        lawOf(x, "need 999; margin 100;");
        due("999", 999, x.count(8));
        due("100", 100, x.count(9));
    }

    private static void firstNumbers() {
        sentence("the first of \"tooth\" 1 to 3, of \"mark\" 0 to 3, of \"tissue\" 1 to 9; of \"seals\" 1 to 5");
        int[] least = {1, 0, 1};
        int[] greatest = {3, 3, 9};
        for (int i = 0; i < 3; i++) {
            for (int first = 0; first <= 12; first++) {
                String text = WITH_IS[i] + " " + first + " is 5;";
                if (first >= least[i] && first <= greatest[i]) {
                    lawful(text, 1);
                } else {
                    faulty(text, WITH_IS[i].length() + 1);
                }
            }
            faulty(WITH_IS[i] + " 999 is 5;", WITH_IS[i].length() + 1);
            faulty("need 5;\n" + WITH_IS[i] + " 10 is 5;", 8 + WITH_IS[i].length() + 1);
        }
        for (int seals = 0; seals <= 8; seals++) {
            if (seals >= 1 && seals <= 5) {
                lawful("seals " + seals + ";", 1);
            } else {
                faulty("seals " + seals + ";", 6);
            }
        }
        faulty("seals 000;", 6);
        faulty("seals 10;", 6);
        faulty("seals 999;", 6);
        faulty("need 5; seals 6", 14);
    }

    private static void otherNumbers() {
        sentence("\"parent\" NUMBER \";\" | \"need\" NUMBER \";\" | \"margin\" NUMBER \";\"");
        NamedAgain x = house(1, 1);
        x.tissue(1, 0, 0, 1, 1);
        x.tissue(2, 0, 0, 1, 1);
        for (int number : new int[] {0, 1, 9, 10, 99, 100, 998, 999}) {
            due("three", 3, lawOf(x, "parent " + number + "; need " + number + "; margin " + number + ";"));
            due("parent " + number, number, x.points(0, 0));
            due("need " + number, number, x.count(8));
            due("margin " + number, number, x.count(9));
        }
        for (String word : new String[] {"parent", "need", "margin"}) {
            faulty(word + " 1000;", word.length() + 1);
        }
        x.tooth(0, 0, 0, 2);
        x.tooth(1, 0, 0, 2);
        alike(x, 0, 0, 3, 8);
        x.tissue(0, 0, 0, 1, 1);
        for (int number : new int[] {0, 1, 500, 999}) {
            due("four", 4, lawOf(x, "tooth 2 is " + number + ";mark 3 is " + number + ";tissue 1 is " + number
                + ";parent 0;"));
            due("each gives " + number, 4 * number, x.points(0, 0));
        }
    }

    private static boolean blank(int b) {
        return b == 32 || b == 10;
    }

    private static boolean letter(int b) {
        return b >= 97 && b <= 122;
    }

    private static boolean digit(int b) {
        return b >= 48 && b <= 57;
    }

    private static void everyByteAlone() {
        sentence("between them blanks (bytes 32 and 10)");
        for (int b = 0; b < 256; b++) {
            String sign = String.valueOf((char) b);
            if (blank(b)) {
                lawful(sign, 0);
                lawful(sign + "need" + sign + "5" + sign + ";" + sign, 1);
            } else {
                faulty(sign, 0);
                faulty(" \n" + sign, 2);
                faulty("need 5;" + sign, 7);
                faulty(sign + "need 5;", 0);
            }
        }
    }

    private static void everyByteBehindAWord() {
        sentence("words of letters a to z");
        for (int b = 0; b < 256; b++) {
            String text = "need" + (char) b + "5;";
            if (blank(b)) {
                lawful(text, 1);
            } else if (letter(b)) {
                faulty(text, 0);
            } else if (digit(b)) {
                lawful(text, 1);
            } else {
                faulty(text, 4);
            }
            String before = (char) b + "s 5;";
            faulty(blank(b) ? "n" + before : before, 0);
        }
        faulty("Need 5;", 0);
        faulty("nEed 5;", 0);
        faulty("neeD 5;", 0);
    }

    private static void everyByteBehindANumber() {
        sentence("Tokens as long as they go: words of letters a to z, digits, \";\"");
        for (int b = 0; b < 256; b++) {
            String sign = String.valueOf((char) b);
            String text = "need 5" + sign + ";";
            if (blank(b) || digit(b)) {
                lawful(text, 1);
            } else {
                faulty(text, b == ';' ? 7 : 6);
            }
            String cut = "need 123" + sign;
            if (b == ';') {
                lawful(cut, 1);
            } else {
                faulty(cut, digit(b) ? 5 : blank(b) ? 9 : 8);
            }
        }
    }

    private static void tokensAsLongAsTheyGo() {
        sentence("Tokens as long as they go");
        lawful("tooth1is2;mark0is3;tissue9is1;parent5;need5;margin5;seals5;", 7);
        faulty("needneed 5;", 0);
        faulty("needs 5;", 0);
        faulty("tooth 1 is2is3;", 11);
        faulty("tooth 1 iss 3;", 8);
        faulty("tooth 1 i s 3;", 8);
        faulty("nee d 5;", 0);
        faulty("need 12 3;", 8);
        faulty("need 1234;", 5);
        faulty("toothis 1;", 0);
        faulty("tooth 1isparent;", 7);
        faulty("a", 0);
        faulty("z", 0);
        faulty("toot 1 is 1;", 0);
        faulty("teeth 1 is 1;", 0);
    }

    /** Every letter of every word once another, once left out, once twice. */
    private static void lettersOfWords() {
        sentence("{\"tooth\" NUMBER \"is\" NUMBER \";\" | \"mark\" NUMBER \"is\" NUMBER \";\"");
        for (String word : WITH_IS) {
            misspelt("", word, " 1 is 1;");
            misspelt(word + " 1 ", "is", " 1;");
        }
        for (String word : WITHOUT_IS) {
            misspelt("", word, " 1;");
        }
    }

    private static void misspelt(String before, String word, String behind) {
        for (int i = 0; i < word.length(); i++) {
            String head = before + word.substring(0, i);
            String tail = word.substring(i + 1) + behind;
            char sign = word.charAt(i);
            faulty(head + (char) (sign - 1) + tail, before.length());
            faulty(head + (char) (sign + 1) + tail, before.length());
            faulty(head + tail, before.length());
            faulty(head + sign + sign + tail, before.length());
        }
    }

    private static void blanksBetween() {
        sentence("between them blanks");
        StringBuilder wide = new StringBuilder();
        for (String token : new String[] {"mark", "2", "is", "9", ";", "seals", "3", ";"}) {
            wide.append(" \n\n  ").append(token);
        }
        lawful(wide.toString(), 2);
        lawful(wide + "\n ", 2);
        faulty(wide + "\n x", wide.length() + 2);
        faulty("\n\n  nee  \n", 4);
        faulty("\n\n  need  \n", 11);
    }

    /** At every place of every statement every token that doesn't belong there. */
    private static void noTextGoesOn() {
        sentence("the place of the first byte of the first token (or byte that begins none) with which no such text goes on");
        List<String> tokens = List.of("tooth", "mark", "tissue", "parent", "need", "margin", "seals", "is", ";", "1",
            "1000", "x", "if", "#", "\u00ff", "\u0000", "-", "TOOTH");
        for (String word : WITH_IS) {
            wrongTokens(List.of(word, "1", "is", "1", ";"), tokens);
        }
        for (String word : WITHOUT_IS) {
            wrongTokens(List.of(word, "1", ";"), tokens);
        }
    }

    private static void wrongTokens(List<String> statement, List<String> tokens) {
        String before = "seals 2;\n";
        for (int place = 0; place < statement.size(); place++) {
            for (String token : tokens) {
                boolean fits = place == 0 ? List.of("tooth", "mark", "tissue", "parent", "need", "margin", "seals")
                    .contains(token) : token.equals(statement.get(place));
                if (!fits) {
                    faulty(before + token + " " + String.join(" ", statement), before.length());
                    faulty(before + token, before.length());
                }
            }
            before += statement.get(place) + " ";
        }
    }

    private static void moreMustCome() {
        sentence("the text's length, if more must come");
        for (String word : WITH_IS) {
            cutEverywhere(List.of(word, "1", "is", "1", ";"));
        }
        for (String word : WITHOUT_IS) {
            cutEverywhere(List.of(word, "1", ";"));
        }
    }

    private static void cutEverywhere(List<String> statement) {
        String text = "";
        for (int many = 0; many < statement.size(); many++) {
            if (many > 0) {
                faulty(text, text.length());
                faulty(text + " ", text.length() + 1);
                faulty(text + "\n\n", text.length() + 2);
                faulty("need 5;" + text, 7 + text.length());
            }
            text += (many == 0 ? "" : " ") + statement.get(many);
        }
        lawful(text, 1);
        lawful(text + " ", 1);
        lawful("need 5;" + text, 2);
    }

    private static void twentyStatements() {
        sentence("the 21st statement: where it begins");
        String nineteen = "need 1;".repeat(19);
        String twenty = nineteen + "margin 6;";
        lawful(nineteen, 19);
        lawful(twenty, 20);
        lawful(twenty + "\n  ", 20);
        int end = twenty.length();
        faulty(twenty + "need 1;", end);
        faulty(twenty + " \nneed 1;", end + 2);
        faulty(twenty + "need", end);
        faulty(twenty + "need 1000;", end);
        faulty(twenty + "seals 9;", end);
        faulty(twenty + "x", end);
        faulty(twenty + ";", end);
        faulty(twenty + " 5", end + 1);
        faulty(twenty + "\u0001", end);
        faulty(nineteen + "margin 6", nineteen.length() + 8);
        faulty(nineteen + "margin", nineteen.length() + 6);
        faulty(nineteen + "margin 1000; need 1;", nineteen.length() + 7);
        NamedAgain x = new NamedAgain();
        due("20 statements", 20, lawOf(x, twenty));
        due("the 20th is in force", 6, x.count(9));
    }

    private static void lawStays() {
        sentence("NONE: a FAULT (THE LAW stays)");
        NamedAgain x = house(1, 1);
        knowAll(x);
        String law = "tooth 1 is 2;mark 0 is 6;tissue 1 is 7;parent 8;need 9;margin 10;seals 3;";
        due("seven", 7, lawOf(x, law));
        int points = x.points(0, 0);
        due("by the law", 2 + 4 + 6 + 6 + 15 + 7 + 3 + 8, points);
        due("a fault at the end", NONE, lawOf(x,
            "tooth 1 is 500;mark 0 is 500;tissue 1 is 500;parent 500;need 500;margin 500;seals 5;need 500"));
        due("points stay", points, x.points(0, 0));
        due("NEED stays", 9, x.count(8));
        due("MARGIN stays", 10, x.count(9));
        due("SEALS stay", 3, x.count(10));
        due("a fault at once", NONE, lawOf(x, ";"));
        due("points stay again", points, x.points(0, 0));
        due("NEED stays again", 9, x.count(8));
        due("-2", -2, x.law(1));
        due("NEED stays with -2", 9, x.count(8));
        due("an empty law is one", 0, x.law(0));
        due("NEED doesn't stay", 20, x.count(8));
    }

    /** A tooth of each state, all marks and sheet 1 (numbers 1 and 2) are known of both and alike, and of the parent the sheet. */
    private static void knowAll(NamedAgain x) {
        for (int tooth = 0; tooth < 3; tooth++) {
            x.tooth(0, 0, tooth, tooth + 1);
            x.tooth(1, 0, tooth, tooth + 1);
        }
        for (int mark = 0; mark < 4; mark++) {
            alike(x, 0, 0, mark, 1 + mark);
        }
        x.tissue(0, 0, 1, 1, 2);
        x.tissue(1, 0, 1, 2, 1);
        x.tissue(2, 0, 1, 1, 1);
    }

    private static void inPlaceOfWhatWas() {
        sentence("In force from then on, in place of what was");
        NamedAgain x = house(1, 1);
        knowAll(x);
        int first = 11 + 20 + 6 + 2;
        due("at first", first, x.points(0, 0));
        String[] laws = {"tooth 1 is 100;", "tooth 2 is 100;", "tooth 3 is 100;", "mark 0 is 100;", "mark 1 is 100;",
            "mark 2 is 100;", "mark 3 is 100;", "tissue 1 is 100;", "tissue 2 is 100;", "parent 100;"};
        int[] gave = {1, 4, 6, 5, 5, 5, 5, 3, 3, 2};
        for (int i = 0; i < laws.length; i++) {
            due(laws[i], 1, lawOf(x, laws[i]));
            due("by " + laws[i], first - gave[i] + 100, x.points(0, 0));
        }
        lawOf(x, "tissue 9 is 100;");
        due("a number that isn't there", first, x.points(0, 0));
        lawOf(x, "need 1;");
        due("NEED", 1, x.count(8));
        lawOf(x, "margin 1;");
        due("NEED is what it is else", 20, x.count(8));
        due("MARGIN", 1, x.count(9));
        lawOf(x, "seals 1;");
        due("MARGIN is what it is else", 5, x.count(9));
        due("SEALS", 1, x.count(10));
        lawOf(x, " ");
        due("SEALS are what they are else", 2, x.count(10));
        due("points are what they are else", first, x.points(0, 0));
    }

    private static void lastOfEach() {
        sentence("the last of each");
        NamedAgain x = house(1, 1);
        knowAll(x);
        lawOf(x, "tooth 1 is 9;tooth 2 is 8;tooth 1 is 7;mark 0 is 6;mark 1 is 5;mark 0 is 4;"
            + "tissue 1 is 3;tissue 2 is 2;tissue 1 is 1;parent 9;parent 0;");
        due("points", 7 + 8 + 6 + 4 + 5 + 5 + 5 + 1 + 2, x.points(0, 0));
        lawOf(x, "need 1; margin 2; seals 3; need 4; margin 5; seals 1; margin 6;");
        due("NEED", 4, x.count(8));
        due("MARGIN", 6, x.count(9));
        due("SEALS", 1, x.count(10));
    }

    private static void elseGives() {
        sentence("else a TOOTH alike gives 1 sound, 4 filled, 6 gone; a MARK 5 each; TISSUE 3 each number; PARENT 2;"
            + " NEED 20, MARGIN 5, SEALS 2");
        int[] gives = {1, 4, 6};
        for (int fed = 0; fed <= 1; fed++) {
            NamedAgain x = house(4, 4);
            if (fed == 1) {
                lawOf(x, "tooth 1 is 50; mark 0 is 50; tissue 1 is 50; parent 50; need 50; margin 50; seals 5;");
                due("an empty law", 0, x.law(0));
            }
            for (int state = 1; state <= 3; state++) {
                x.tooth(0, 0, 0, state);
                x.tooth(1, 0, 0, state);
                due("a tooth of " + state, gives[state - 1], x.points(0, 0));
            }
            for (int mark = 0; mark < 4; mark++) {
                alike(x, 1, 1, mark, 3);
                due("marks up to " + mark, 5 * (mark + 1), x.points(1, 1));
            }
            for (int number = 1; number <= 9; number++) {
                x.tissue(0, 2, 0, number, number);
                x.tissue(1, 2, 0, number, number);
                due("number " + number, 6, x.points(2, 2));
            }
            x.tissue(2, 3, 0, 1, 1);
            x.tissue(1, 3, 0, 1, 1);
            due("parent", 2, x.points(3, 3));
            due("NEED", 20, x.count(8));
            due("MARGIN", 5, x.count(9));
            due("SEALS", 2, x.count(10));
        }
    }

    private static void faultOfTheLatest() {
        sentence("The FAULT's place of the latest law() that was a number or NONE; NONE: it had none.");
        NamedAgain x = new NamedAgain();
        due("no law at all", NONE, x.fault());
        due("-2 at first", -2, x.law(1));
        due("no law still", NONE, x.fault());
        lawOf(x, "need;");
        due("a fault", 4, x.fault());
        due("asking again", 4, x.fault());
        due("-2", -2, x.law(-1));
        due("-2 is no number", 4, x.fault());
        feedText(x, "x");
        due("feeding changes nothing", 4, x.fault());
        due("-2 with bytes", -2, x.law(21));
        due("the fault still", 4, x.fault());
        due("another fault", NONE, x.law(1));
        due("its place", 0, x.fault());
        lawOf(x, "need 5;  y");
        due("a third's place", 9, x.fault());
        due("a law", 1, lawOf(x, "need 5;"));
        due("it had none", NONE, x.fault());
        lawOf(x, "need 5");
        due("its length", 6, x.fault());
        due("an empty law", 0, x.law(0));
        due("an empty one had none", NONE, x.fault());
    }
}
