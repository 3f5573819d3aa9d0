import java.nio.charset.StandardCharsets;

/** At least one test for each promise: ordinary inputs, the edges that the document names, wrong inputs. */
public final class PromisesTest {
    private static final int NONE = NamedAgain.NONE;
    private static final int NO_POINTS = -100000;

    private static int wrong = 0;
    private static String promise = "";

    public static void main(String[] args) {
        newObject();
        file();
        sex();
        age();
        tooth();
        mark();
        tissue();
        pieces();
        unfit();
        join();
        body();
        told();
        shut();
        points();
        pairing();
        pairingOfSeveral();
        margin();
        seal();
        sealsOfJoined();
        give();
        named();
        unname();
        feed();
        law();
        lawInForce();
        fault();
        count();
        System.out.println(wrong == 0 ? "all promises hold" : wrong + " answers are wrong");
        if (wrong != 0) {
            System.exit(1);
        }
    }

    private static void due(String what, long want, long got) {
        if (want != got) {
            wrong++;
            System.out.println(promise + ": " + what + " answered " + got + ", due is " + want);
        }
    }

    private static void yes(String what, boolean got) {
        due(what, 1, got ? 1 : 0);
    }

    private static void no(String what, boolean got) {
        due(what, 0, got ? 1 : 0);
    }

    private static NamedAgain house(int missing, int found) {
        NamedAgain x = new NamedAgain();
        for (int i = 0; i < missing; i++) {
            x.file(0);
        }
        for (int i = 0; i < found; i++) {
            x.file(1);
        }
        return x;
    }

    /** Feeds a text, filled up with blanks to twenties. */
    private static void feedText(NamedAgain x, String text) {
        byte[] bytes = text.getBytes(StandardCharsets.ISO_8859_1);
        for (int start = 0; start < bytes.length; start += 20) {
            int[] five = new int[5];
            for (int i = 0; i < 20; i++) {
                int b = start + i < bytes.length ? bytes[start + i] & 255 : ' ';
                five[i / 4] = five[i / 4] << 8 | b;
            }
            x.feed(five[0], five[1], five[2], five[3], five[4]);
        }
    }

    private static int lawOf(NamedAgain x, String text) {
        feedText(x, text);
        return x.law(text.length());
    }

    private static void faultOf(String text, int place) {
        NamedAgain x = house(0, 0);
        due("law of '" + text + "'", NONE, lawOf(x, text));
        due("fault of '" + text + "'", place, x.fault());
        due("NEED after '" + text + "'", 20, x.count(8));
        due("tape after '" + text + "'", 0, x.count(7));
    }

    private static void lawful(String text, int statements) {
        NamedAgain x = house(0, 0);
        due("law of '" + text + "'", statements, lawOf(x, text));
        due("fault of '" + text + "'", NONE, x.fault());
    }

    /** Makes a pair have points by its mark 0, without touching others: a law gives mark 0 as many. */
    private static void alike(NamedAgain x, int found, int missing, int mark, int value) {
        x.mark(1, found, mark, value);
        x.mark(0, missing, mark, value);
    }

    private static void newObject() {
        promise = "1 new object";
        NamedAgain x = new NamedAgain();
        for (int what = 0; what <= 7; what++) {
            due("count " + what, 0, x.count(what));
        }
        due("need", 20, x.count(8));
        due("margin", 5, x.count(9));
        due("seals", 2, x.count(10));
        due("fault", NONE, x.fault());
        due("body", NONE, x.body(0));
        due("sum", 0, x.pairing(NONE));
        due("pairing", NO_POINTS, x.pairing(0));
        due("NONE", -1, NamedAgain.NONE);
    }

    private static void file() {
        promise = "2 file";
        NamedAgain x = new NamedAgain();
        due("side -1", NONE, x.file(-1));
        due("side 2", NONE, x.file(2));
        for (int i = 0; i < 12; i++) {
            due("missing", i, x.file(0));
            due("found", i, x.file(1));
        }
        due("13th missing", NONE, x.file(0));
        due("13th found", NONE, x.file(1));
        due("missing ones", 12, x.count(0));
        due("found ones", 12, x.count(1));
        due("the 12th found", 11, x.body(11));
    }

    private static void sex() {
        promise = "3 sex";
        NamedAgain x = house(1, 1);
        yes("2", x.sex(1, 0, 2));
        due("told", 2, x.told(0, 0));
        no("3", x.sex(1, 0, 3));
        no("-1", x.sex(1, 0, -1));
        no("no such file", x.sex(1, 1, 1));
        no("file -1", x.sex(0, -1, 1));
        no("side 2", x.sex(2, 0, 1));
        no("side -1", x.sex(-1, 0, 1));
        due("told still", 2, x.told(0, 0));
        yes("0", x.sex(1, 0, 0));
        due("not known any more", 0, x.told(0, 0));
        yes("of the missing", x.sex(0, 0, 1));
        due("not of the found", 0, x.told(0, 0));
    }

    private static void age() {
        promise = "4 age";
        NamedAgain x = house(1, 1);
        due("from at first", 0, x.told(0, 1));
        due("to at first", 120, x.told(0, 2));
        yes("30 to 30", x.age(1, 0, 30, 30));
        due("from", 30, x.told(0, 1));
        due("to", 30, x.told(0, 2));
        no("31 to 30", x.age(1, 0, 31, 30));
        no("-1 to 30", x.age(1, 0, -1, 30));
        no("0 to 121", x.age(1, 0, 0, 121));
        no("121 to 121", x.age(1, 0, 121, 121));
        no("no such file", x.age(1, 1, 0, 1));
        no("side 2", x.age(2, 0, 0, 1));
        due("from still", 30, x.told(0, 1));
        yes("0 to 120", x.age(0, 0, 0, 120));
        yes("120 to 120", x.age(0, 0, 120, 120));
    }

    private static void tooth() {
        promise = "5 tooth";
        NamedAgain x = house(1, 1);
        for (int t = 0; t < 8; t++) {
            due("at first", 0, x.told(0, 10 + t));
            yes("tooth " + t, x.tooth(1, 0, t, t % 4));
            due("told " + t, t % 4, x.told(0, 10 + t));
        }
        no("tooth 8", x.tooth(1, 0, 8, 1));
        no("tooth -1", x.tooth(1, 0, -1, 1));
        no("state 4", x.tooth(1, 0, 1, 4));
        no("state -1", x.tooth(1, 0, 1, -1));
        no("no such file", x.tooth(1, 1, 1, 1));
        no("side 2", x.tooth(2, 0, 1, 1));
        due("told still", 1, x.told(0, 11));
        yes("of the missing", x.tooth(0, 0, 7, 3));
    }

    private static void mark() {
        promise = "6 mark";
        NamedAgain x = house(1, 1);
        for (int k = 0; k < 4; k++) {
            due("at first", 0, x.told(0, 20 + k));
            yes("mark " + k, x.mark(1, 0, k, 9 - k));
            due("told " + k, 9 - k, x.told(0, 20 + k));
        }
        no("mark 4", x.mark(1, 0, 4, 1));
        no("mark -1", x.mark(1, 0, -1, 1));
        no("value 10", x.mark(1, 0, 0, 10));
        no("value -1", x.mark(1, 0, 0, -1));
        no("no such file", x.mark(0, 1, 0, 1));
        no("side 2", x.mark(2, 0, 0, 1));
        due("told still", 9, x.told(0, 20));
        yes("not known any more", x.mark(1, 0, 0, 0));
        due("told 0", 0, x.told(0, 20));
    }

    private static void tissue() {
        promise = "7 tissue";
        NamedAgain x = house(1, 1);
        for (int s = 0; s < 3; s++) {
            due("at first", 0, x.told(0, 30 + s));
            yes("sheet " + s, x.tissue(1, 0, s, 9, s + 1));
            due("told " + s, 10 * (s + 1) + 9, x.told(0, 30 + s));
        }
        no("sheet 3", x.tissue(1, 0, 3, 1, 1));
        no("sheet -1", x.tissue(1, 0, -1, 1, 1));
        no("sheet 3 torn out", x.tissue(1, 0, 3, 0, 0));
        no("a 10", x.tissue(1, 0, 0, 10, 1));
        no("a -1", x.tissue(1, 0, 0, -1, 1));
        no("b 10", x.tissue(1, 0, 0, 1, 10));
        no("b 0", x.tissue(1, 0, 0, 1, 0));
        no("no such file", x.tissue(1, 1, 0, 1, 1));
        no("no such parent", x.tissue(2, 1, 0, 1, 1));
        no("side 3", x.tissue(3, 0, 0, 1, 1));
        no("side -1", x.tissue(-1, 0, 0, 1, 1));
        due("told still", 19, x.told(0, 30));
        yes("torn out, b whatever", x.tissue(1, 0, 0, 0, -77));
        due("torn out", 0, x.told(0, 30));
        yes("of a parent", x.tissue(2, 0, 1, 5, 6));
        due("the parent's shuts out", 5, x.shut(0, 0));
        yes("the parent's torn out", x.tissue(2, 0, 1, 0, 0));
        due("shuts no more", 0, x.shut(0, 0));
    }

    private static void pieces() {
        promise = "8 pieces";
        NamedAgain x = house(1, 3);
        due("at first", 0, x.told(0, 3));
        yes("255", x.pieces(0, 255));
        due("told", 255, x.told(0, 3));
        no("256", x.pieces(0, 256));
        no("-1", x.pieces(0, -1));
        no("no such", x.pieces(3, 1));
        no("file -1", x.pieces(-1, 1));
        due("told still", 255, x.told(0, 3));
        yes("its own again", x.pieces(0, 3));
        yes("unjoined may have alike ones", x.pieces(1, 3));
        yes("others", x.pieces(1, 12));
        yes("joined", x.join(0, 1));
        no("twice in the body", x.pieces(0, 6));
        due("nothing done", 15, x.told(1, 3));
        yes("its own may be told again", x.pieces(0, 2));
        yes("what it gave up", x.pieces(1, 5));
        due("both", 7, x.told(0, 3));
        no("twice in the body, the first one's", x.pieces(1, 7));
        yes("another body's don't matter", x.pieces(2, 7));
    }

    private static void unfit() {
        promise = "9 unfit";
        NamedAgain x = house(1, 3);
        due("the same", 1, x.unfit(0, 0));
        due("no such", 1, x.unfit(0, 3));
        due("-1", 1, x.unfit(-1, 0));
        due("they can", 0, x.unfit(0, 1));
        x.pieces(0, 1);
        x.pieces(1, 3);
        x.sex(1, 0, 1);
        x.sex(1, 1, 2);
        x.age(1, 0, 10, 20);
        x.age(1, 1, 21, 30);
        x.tissue(1, 0, 2, 1, 2);
        x.tissue(1, 1, 2, 1, 3);
        due("pieces", 2, x.unfit(0, 1));
        x.pieces(1, 2);
        due("sexes", 3, x.unfit(1, 0));
        x.sex(1, 1, 0);
        due("ages", 4, x.unfit(0, 1));
        x.age(1, 1, 20, 30);
        due("tissue", 5, x.unfit(0, 1));
        x.tissue(1, 1, 2, 2, 1);
        due("nothing", 0, x.unfit(1, 0));
        yes("joined", x.join(0, 1));
        due("one body", 1, x.unfit(1, 0));
        x.sex(1, 2, 2);
        due("with the body's sex", 3, x.unfit(2, 1));
        x.sex(1, 2, 0);
        x.pieces(2, 2);
        due("with the body's pieces", 2, x.unfit(0, 2));
        x.pieces(2, 0);
        lawOf(x, "need 0; margin 0; seals 1;");
        alike(x, 2, 0, 0, 4);
        x.seal(2, 0, 0);
        due("given", 0, x.give(2));
        due("a name", 6, x.unfit(0, 2));
        due("a name, the other way", 6, x.unfit(2, 1));
        x.tissue(1, 2, 2, 9, 9);
        due("tissue before a name", 5, x.unfit(2, 1));
    }

    private static void join() {
        promise = "10 join";
        NamedAgain x = house(0, 5);
        no("itself", x.join(1, 1));
        no("no such", x.join(1, 5));
        yes("4 and 2", x.join(4, 2));
        due("4", 2, x.body(4));
        yes("3 and 4", x.join(3, 4));
        due("3", 2, x.body(3));
        x.sex(1, 1, 1);
        x.sex(1, 4, 2);
        no("sexes", x.join(1, 3));
        due("1 alone", 1, x.told(1, 4));
        due("the body of 2", 3, x.told(2, 4));
        x.sex(1, 1, 0);
        yes("1 and 3", x.join(1, 3));
        due("4 by now", 1, x.body(4));
        due("2 by now", 1, x.body(2));
        due("bodies", 2, x.count(2));
        no("joined already", x.join(4, 1));
    }

    private static void body() {
        promise = "11 body";
        NamedAgain x = house(3, 2);
        due("0", 0, x.body(0));
        due("1", 1, x.body(1));
        due("2", NONE, x.body(2));
        due("-1", NONE, x.body(-1));
        x.join(0, 1);
        due("1 joined", 0, x.body(1));
    }

    private static void told() {
        promise = "12 told";
        NamedAgain x = house(1, 3);
        x.join(0, 2);
        x.join(1, 2);
        x.sex(1, 1, 2);
        x.sex(1, 2, 1);
        x.tooth(1, 2, 7, 3);
        x.tooth(1, 0, 7, 0);
        x.mark(1, 1, 3, 8);
        x.mark(1, 2, 3, 9);
        x.mark(1, 2, 1, 2);
        x.tissue(1, 2, 0, 7, 7);
        x.tissue(1, 1, 2, 9, 1);
        x.tissue(1, 2, 2, 1, 8);
        x.age(1, 0, 10, 60);
        x.age(1, 1, 30, 90);
        x.age(1, 2, 20, 40);
        x.pieces(0, 1);
        x.pieces(2, 128);
        due("sex of the first that knows it", 2, x.told(0, 0));
        due("greatest from", 30, x.told(1, 1));
        due("least to", 40, x.told(2, 2));
        due("pieces", 129, x.told(1, 3));
        due("found ones", 3, x.told(2, 4));
        due("tooth", 3, x.told(0, 17));
        due("mark of the first", 8, x.told(0, 23));
        due("another mark of another", 2, x.told(0, 21));
        due("sheet of a twice", 77, x.told(0, 30));
        due("sheet not known", 0, x.told(0, 31));
        due("sheet of the first", 19, x.told(0, 32));
        x.sex(1, 1, 0);
        due("sex of the next", 1, x.told(0, 0));
        int[] others = {-1, 5, 9, 18, 19, 24, 29, 33, Integer.MAX_VALUE, Integer.MIN_VALUE};
        for (int what : others) {
            due("what " + what, NONE, x.told(0, what));
        }
        due("no such", NONE, x.told(3, 0));
        due("-1", NONE, x.told(-1, 4));
        x.age(1, 1, 70, 80);
        due("ages fallen apart, from", 70, x.told(0, 1));
        due("ages fallen apart, to", 40, x.told(0, 2));
        x.age(0, 0, 20, 90);
        due("meet nobody", 2, x.shut(0, 0));
    }

    private static void shut() {
        promise = "13 shut";
        NamedAgain x = house(1, 1);
        due("nothing", 0, x.shut(0, 0));
        due("no such found", NONE, x.shut(1, 0));
        due("no such missing", NONE, x.shut(0, 1));
        due("-1", NONE, x.shut(-1, -1));
        x.sex(0, 0, 1);
        x.sex(1, 0, 2);
        x.age(0, 0, 0, 9);
        x.age(1, 0, 10, 12);
        x.tooth(0, 0, 5, 2);
        x.tooth(1, 0, 5, 1);
        x.tissue(0, 0, 2, 1, 2);
        x.tissue(1, 0, 2, 2, 2);
        x.tissue(2, 0, 0, 3, 4);
        x.tissue(1, 0, 0, 5, 6);
        due("sexes", 1, x.shut(0, 0));
        x.sex(0, 0, 0);
        due("ages", 2, x.shut(0, 0));
        x.age(0, 0, 0, 10);
        due("teeth", 3, x.shut(0, 0));
        x.tooth(1, 0, 5, 2);
        due("tissue", 4, x.shut(0, 0));
        x.tooth(1, 0, 5, 0);
        due("a tooth not known of the body", 4, x.shut(0, 0));
        x.tooth(1, 0, 5, 3);
        due("a tooth lost since", 4, x.shut(0, 0));
        x.tissue(0, 0, 2, 2, 2);
        due("parent", 5, x.shut(0, 0));
        x.tissue(1, 0, 0, 5, 3);
        due("one of the parent's numbers", 0, x.shut(0, 0));
        x.tissue(1, 0, 0, 4, 4);
        due("the other of the parent's", 0, x.shut(0, 0));
        x.tooth(0, 0, 6, 3);
        due("a tooth that only the missing one's file knows", 0, x.shut(0, 0));
        x.tissue(2, 0, 1, 1, 1);
        due("a parent's sheet that the body lacks", 0, x.shut(0, 0));
        for (int t = 0; t < 8; t++) {
            NamedAgain y = house(1, 1);
            y.tooth(0, 0, t, 3);
            y.tooth(1, 0, t, 2);
            due("filled again, tooth " + t, 3, y.shut(0, 0));
        }
        for (int s = 0; s < 3; s++) {
            NamedAgain y = house(1, 2);
            y.tissue(0, 0, s, 1, 2);
            y.tissue(1, 0, s, 1, 3);
            y.tissue(1, 1, s, 1, 2);
            due("unlike sheet " + s, 4, y.shut(0, 0));
            due("unlike sheet to join " + s, 5, y.unfit(0, 1));
            y.tissue(0, 0, s, 0, 0);
            y.tissue(2, 0, s, 2, 2);
            due("parent's sheet " + s, 5, y.shut(0, 0));
        }
    }

    private static void points() {
        promise = "14 points";
        NamedAgain x = house(1, 2);
        due("nothing known", 0, x.points(0, 0));
        due("no such found", NONE, x.points(2, 0));
        due("no such missing", NONE, x.points(0, 1));
        due("-1", NONE, x.points(-1, 0));
        for (int t = 0; t < 3; t++) {
            x.tooth(0, 0, t, t + 1);
            x.tooth(1, 0, t, t + 1);
        }
        due("teeth alike", 11, x.points(0, 0));
        x.tooth(1, 0, 0, 3);
        due("a tooth unlike gives nothing", 10, x.points(0, 0));
        x.mark(0, 0, 0, 1);
        x.mark(1, 0, 0, 2);
        x.mark(0, 0, 1, 1);
        due("a mark unlike", 5, x.points(0, 0));
        x.mark(1, 0, 1, 1);
        due("a mark alike", 10, x.points(0, 0));
        x.tissue(0, 0, 1, 5, 8);
        x.tissue(1, 0, 1, 8, 5);
        due("tissue", 16, x.points(0, 0));
        x.tissue(2, 0, 1, 8, 8);
        due("parent", 18, x.points(0, 0));
        x.tissue(2, 0, 2, 8, 8);
        due("parent's sheet unknown of the body", 18, x.points(0, 0));
        x.tissue(1, 0, 2, 8, 1);
        due("sheet unknown of the missing one", 20, x.points(0, 0));
        lawOf(x, "tooth 2 is 100; mark 0 is 300; mark 1 is 7; tissue 5 is 40; tissue 8 is 1; parent 0;");
        due("by a law", 100 + 6 - 300 + 7 + 41, x.points(0, 0));
        x.sex(0, 0, 1);
        x.sex(1, 0, 2);
        due("shut out", NO_POINTS, x.points(0, 0));
        lawOf(x, "mark 2 is 1;");
        x.mark(0, 0, 2, 1);
        x.mark(1, 1, 2, 2);
        due("points of -1", -1, x.points(1, 0));
        x.join(0, 1);
        due("of a body", NO_POINTS, x.points(1, 0));
    }

    private static void pairing() {
        promise = "15 pairing";
        NamedAgain x = house(2, 3);
        lawOf(x, "need 0; margin 0; seals 1; mark 0 is 10; mark 1 is 9; mark 2 is 8;");
        alike(x, 0, 0, 0, 1);
        alike(x, 1, 0, 1, 1);
        alike(x, 0, 1, 2, 1);
        x.mark(1, 2, 3, 5);
        x.mark(0, 1, 3, 4);
        due("joint, not greedy", 17, x.pairing(NONE));
        due("0", 1, x.pairing(0));
        due("1", 0, x.pairing(1));
        due("points below 0 are no pair", NONE, x.pairing(2));
        due("no such", NO_POINTS, x.pairing(3));
        due("-2", NO_POINTS, x.pairing(-2));
        x.join(0, 2);
        due("of a body's second", x.pairing(0), x.pairing(2));
        x.sex(0, 1, 1);
        x.sex(1, 0, 2);
        due("shut out", 10, x.pairing(NONE));
        due("0 then", 0, x.pairing(0));
        due("1 then", NONE, x.pairing(1));
        x.seal(0, 0, 1);
        due("given", 0, x.give(0));
        due("a given name's points aren't asked", 0, x.pairing(NONE));
        due("its pair is taken", 0, x.pairing(2));
        due("nobody else has it", NONE, x.pairing(1));
        x.sex(0, 0, 1);
        due("it stays in doubt", 0, x.pairing(0));
        due("the doubtful name isn't another's", NONE, x.pairing(1));
    }

    /** Twelve a side all alike: there are 12! best ways, and the first of them is due. */
    private static void pairingOfSeveral() {
        promise = "15 pairing, of several the first";
        NamedAgain x = house(12, 12);
        for (int i = 0; i < 12; i++) {
            alike(x, i, i, 0, 7);
        }
        due("all", 60, x.pairing(NONE));
        for (int i = 0; i < 12; i++) {
            due("body " + i, i, x.pairing(i));
            due("margin " + i, 0, x.margin(i));
        }
        NamedAgain w = house(1, 1);
        w.tooth(0, 0, 0, 1);
        w.tooth(1, 0, 0, 1);
        due("a point is above 0", 1, w.pairing(NONE));
        due("a pair of one point", 0, w.pairing(0));
        due("its margin", 1, w.margin(0));
        NamedAgain y = house(2, 3);
        alike(y, 0, 1, 0, 7);
        alike(y, 1, 0, 0, 7);
        alike(y, 2, 0, 0, 7);
        due("two names for three", 10, y.pairing(NONE));
        due("the least body has the least", 0, y.pairing(0));
        due("the next", 1, y.pairing(1));
        due("none behind all", NONE, y.pairing(2));
        NamedAgain z = house(2, 2);
        lawOf(z, "mark 0 is 999; mark 1 is 999; mark 2 is 999; mark 3 is 999; tooth 3 is 999; parent 999;"
            + "tissue 1 is 999;");
        for (int i = 0; i < 2; i++) {
            for (int k = 0; k < 8; k++) {
                z.tooth(0, i, k, 3);
                z.tooth(1, i, k, 3);
                alike(z, i, i, k % 4, 9);
                z.tissue(k % 3, i, k % 3, 1, 1);
                z.tissue((k + 1) % 3, i, k % 3, 1, 1);
                z.tissue((k + 2) % 3, i, k % 3, 1, 1);
            }
        }
        due("the most points", 999 * (8 + 4 + 6 + 3), z.points(1, 1));
        due("the greatest sum of two", 2 * 999 * 21, z.pairing(NONE));
        due("the first", 0, z.pairing(0));
        due("no margin", 0, z.margin(0));
    }

    private static void margin() {
        promise = "16 margin";
        NamedAgain x = house(2, 3);
        lawOf(x, "need 0; margin 0; seals 1; mark 0 is 10; mark 1 is 9; mark 2 is 8;");
        alike(x, 0, 0, 0, 1);
        alike(x, 1, 0, 1, 1);
        alike(x, 0, 1, 2, 1);
        due("17 less 10", 7, x.margin(0));
        due("17 less 10 too", 7, x.margin(1));
        due("has none", NONE, x.margin(2));
        due("no such", NONE, x.margin(3));
        due("-1", NONE, x.margin(-1));
        x.seal(0, 1, 0);
        due("given", 1, x.give(0));
        due("a given one", NONE, x.margin(0));
        due("the rest", 9, x.margin(1));
        due("asking changed nothing", 9, x.pairing(NONE));
        due("the pair is there still", 0, x.pairing(1));
    }

    private static void seal() {
        promise = "17 seal";
        NamedAgain x = house(7, 2);
        due("no such found", NONE, x.seal(2, 0, 0));
        due("no such missing", NONE, x.seal(0, 7, 0));
        due("-1", NONE, x.seal(-1, 0, 0));
        due("missing -1", NONE, x.seal(0, -1, 0));
        due("person 10", NONE, x.seal(0, 0, 10));
        due("person -1", NONE, x.seal(0, 0, -1));
        for (int m = 0; m < 6; m++) {
            for (int p = 0; p < 10; p++) {
                due("seal", p + 1, x.seal(1, m, p));
                if (m == 0) {
                    due("again", -2, x.seal(1, 0, p));
                }
            }
        }
        due("60", 60, x.count(4));
        due("that one did, before full", -2, x.seal(1, 5, 9));
        due("full", -3, x.seal(0, 0, 0));
        due("none such, before full", NONE, x.seal(0, 0, 10));
        due("60 still", 60, x.count(4));
    }

    private static void sealsOfJoined() {
        promise = "17 seals of joined bodies";
        NamedAgain x = house(1, 3);
        due("on 1", 1, x.seal(1, 0, 4));
        due("on 2", 1, x.seal(2, 0, 5));
        due("on 2 again", 2, x.seal(2, 0, 6));
        x.join(2, 1);
        due("those of 1 stay", -2, x.seal(2, 0, 4));
        due("those of 2 are of no pair", 2, x.seal(2, 0, 5));
        due("they count", 4, x.count(4));
        x.join(0, 2);
        due("none on 0", 1, x.seal(1, 0, 4));
        due("they count still", 5, x.count(4));
    }

    private static void give() {
        promise = "18 give";
        NamedAgain x = house(2, 3);
        due("no such", -2, x.give(3));
        due("-1", -2, x.give(-1));
        due("none in the pairing", -3, x.give(0));
        for (int t = 0; t < 3; t++) {
            x.tooth(0, 0, t, 3);
            x.tooth(1, 0, t, 3);
            x.tooth(1, 1, t, 3);
        }
        due("18 points", -4, x.give(0));
        x.tooth(0, 0, 4, 1);
        x.tooth(1, 0, 4, 1);
        x.tooth(1, 1, 4, 1);
        x.tooth(0, 0, 5, 1);
        x.tooth(1, 0, 5, 1);
        due("20 points are enough, a margin of 1 isn't", -5, x.give(0));
        x.tooth(1, 1, 5, 3);
        x.tooth(0, 0, 6, 2);
        x.tooth(1, 0, 6, 2);
        due("a margin of 5 is enough", -6, x.give(0));
        x.seal(0, 0, 1);
        x.seal(1, 0, 2);
        x.seal(0, 1, 2);
        due("seals of other pairs aren't of this", -6, x.give(0));
        x.seal(0, 0, 2);
        due("given", 0, x.give(0));
        due("has a name", -2, x.give(0));
        due("names", 1, x.count(3));
        due("refused ones did nothing", NONE, x.named(1, 0));
        due("the name is taken", -3, x.give(1));
        yes("joined", x.join(1, 2));
        alike(x, 2, 1, 0, 3);
        lawOf(x, "need 5; margin 5; seals 1;");
        due("seals lack", -6, x.give(2));
        x.seal(2, 1, 9);
        due("by a body's second", 1, x.give(2));
        due("the body's name", 1, x.named(1, 0));
    }

    private static void named() {
        promise = "19 named";
        NamedAgain x = doubtful();
        due("name", 0, x.named(0, 0));
        due("of a body's second", 0, x.named(1, 0));
        due("no doubt", 0, x.named(0, 1));
        due("no name", NONE, x.named(2, 0));
        due("no name, no doubt", 0, x.named(2, 1));
        due("no such", NONE, x.named(3, 0));
        due("-1", NONE, x.named(-1, 1));
        due("what 2", NONE, x.named(0, 2));
        due("what -1", NONE, x.named(0, -1));
        x.age(0, 0, 0, 9);
        due("doubt", 1, x.named(1, 1));
        due("the name stays", 0, x.named(0, 0));
        x.age(0, 0, 0, 10);
        due("no doubt again", 0, x.named(1, 1));
        x.mark(1, 0, 0, 9);
        due("fewer points are no doubt", 0, x.named(0, 1));
    }

    private static void unname() {
        promise = "20 unname";
        NamedAgain x = doubtful();
        no("no doubt", x.unname(0));
        no("no name", x.unname(2));
        no("no such", x.unname(3));
        no("-1", x.unname(-1));
        due("names", 1, x.count(3));
        x.age(0, 0, 0, 9);
        yes("in doubt, by the body's second", x.unname(1));
        due("no name any more", NONE, x.named(0, 0));
        due("names then", 0, x.count(3));
        due("seals stay", 1, x.count(4));
        no("there is none", x.unname(0));
        x.age(0, 0, 0, 20);
        due("given again", 0, x.give(0));
    }

    /** Found 0 and 1 are a body, named after missing 0. */
    private static NamedAgain doubtful() {
        NamedAgain x = house(1, 3);
        lawOf(x, "need 5;margin 5;seals 1;");
        x.join(0, 1);
        x.age(1, 0, 10, 20);
        alike(x, 0, 0, 0, 3);
        x.seal(0, 0, 0);
        x.give(0);
        return x;
    }

    private static void feed() {
        promise = "21 feed";
        NamedAgain x = house(0, 0);
        for (int i = 1; i <= 25; i++) {
            due("feed " + i, 20 * i, x.feed(-1, 0, 1, Integer.MIN_VALUE, Integer.MAX_VALUE));
        }
        due("more than 500", NONE, x.feed(0, 0, 0, 0, 0));
        due("nothing done", 500, x.count(7));
        due("a law of none", 0, x.law(0));
        due("empty then", 0, x.count(7));
        due("room again", 20, x.feed(0x6e656564, 0x20303037, 0x3b0a2020, 0x20202020, 0x20202020));
        due("the highest byte first", 1, x.law(20));
        due("NEED", 7, x.count(8));
        due("behind those there", 20, x.feed(0x20202020, 0x20202020, 0x20202020, 0x20202020, 0x73656100));
        due("more", 40, x.feed(0, 0, 0, 0, 0));
        due("fault at a cut word", NONE, x.law(20));
        due("where it begins", 16, x.fault());
    }

    private static void law() {
        promise = "22 law";
        NamedAgain x = house(0, 0);
        due("of no bytes", 0, x.law(0));
        due("-1", -2, x.law(-1));
        due("more than there are", -2, x.law(1));
        feedText(x, "need 1;");
        due("more than there are, by one", -2, x.law(21));
        due("nothing done", 20, x.count(7));
        due("the first 7", 1, x.law(7));
        due("the tape is empty", 0, x.count(7));
        due("NEED", 1, x.count(8));
        lawful("", 0);
        lawful("  \n\n ", 0);
        lawful("tooth1is0;tooth2is999;tooth 3is 5 ;", 3);
        lawful("mark 0 is 1; mark 3 is 1;\nmark\n003\nis\n000\n;", 3);
        lawful("tissue 1 is 1; tissue 9 is 0;", 2);
        lawful("parent 999; need 0; margin 999; seals 1; seals 005;", 5);
        StringBuilder twenty = new StringBuilder();
        for (int i = 0; i < 20; i++) {
            twenty.append("need ").append(i).append(';');
        }
        lawful(twenty + " \n", 20);
        promise = "22 law, a fault";
        faultOf(twenty + " need 5;", twenty.length() + 1);
        faultOf(twenty + "need", twenty.length());
        faultOf(twenty + ";", twenty.length());
    }

    private static void lawInForce() {
        promise = "22 law, in force";
        NamedAgain x = house(1, 1);
        due("three", 3, lawOf(x, "need 7; margin 8; need 9;"));
        due("the last of each", 9, x.count(8));
        due("margin", 8, x.count(9));
        due("seals as at first", 2, x.count(10));
        due("a fault", NONE, lawOf(x, "seals 3; need 1; margin"));
        due("the law stays: need", 9, x.count(8));
        due("the law stays: seals", 2, x.count(10));
        due("another", 1, lawOf(x, "seals 5;"));
        due("in place of what was: need", 20, x.count(8));
        due("in place of what was: margin", 5, x.count(9));
        due("seals", 5, x.count(10));
        for (int t = 0; t < 3; t++) {
            x.tooth(0, 0, t, t + 1);
            x.tooth(1, 0, t, t + 1);
        }
        alike(x, 0, 0, 2, 6);
        x.tissue(0, 0, 0, 1, 9);
        x.tissue(1, 0, 0, 9, 1);
        x.tissue(2, 0, 0, 9, 9);
        due("what holds at first", 11 + 5 + 6 + 2, x.points(0, 0));
        lawOf(x, "tooth 1 is 10; mark 2 is 20; tissue 9 is 30; parent 40;");
        due("by the law", 10 + 4 + 6 + 20 + 33 + 40, x.points(0, 0));
        lawOf(x, "");
        due("what holds else", 24, x.points(0, 0));
    }

    private static void fault() {
        promise = "23 fault";
        faultOf("odds 2;", 0);
        faultOf("feed 2;", 0);
        faultOf("tooth 1 as 2;", 8);
        faultOf("  odds 2;", 2);
        faultOf("need", 4);
        faultOf("need  \n", 7);
        faultOf("need 5", 6);
        faultOf("need 5 ", 7);
        faultOf("need 5 need 6;", 7);
        faultOf("need 1000;", 5);
        faultOf("need 0001;", 5);
        faultOf("need ;", 5);
        faultOf("needs 5;", 0);
        faultOf("nee", 0);
        faultOf("need5;5", 6);
        faultOf("need 5;;", 7);
        faultOf("Need 5;", 0);
        faultOf("needA 5;", 4);
        faultOf("need\t5;", 4);
        faultOf("need -5;", 5);
        faultOf("need 5\u00e9;", 6);
        faultOf("need 5;\u0000", 7);
        faultOf("seals 0;", 6);
        faultOf("seals 6;", 6);
        faultOf("tooth 0 is 1;", 6);
        faultOf("tooth 4 is 1;", 6);
        faultOf("tooth 1 1;", 8);
        faultOf("tooth 1 is", 10);
        faultOf("tooth 1 is ;", 11);
        faultOf("tooth 1 is 1000;", 11);
        faultOf("tooth 1 isn 1;", 8);
        faultOf("tooth is 1;", 6);
        faultOf("mark 4 is 1;", 5);
        faultOf("mark 3 is 1 is", 12);
        faultOf("tissue 0 is 1;", 7);
        faultOf("tissue 10 is 1;", 7);
        faultOf("is 1;", 0);
        faultOf("5;", 0);
        faultOf("parent 2 is 3;", 9);
        faultOf("margin 2", 8);
        promise = "23 fault, of the latest";
        NamedAgain x = house(0, 0);
        due("at first", NONE, x.fault());
        lawOf(x, "need;");
        due("place", 4, x.fault());
        due("-2", -2, x.law(1));
        due("-2 doesn't count", 4, x.fault());
        lawOf(x, "need 5;");
        due("it had none", NONE, x.fault());
    }

    private static void count() {
        promise = "24 count";
        NamedAgain x = doubtful();
        x.file(0);
        x.file(0);
        due("missing ones", 3, x.count(0));
        due("found ones", 3, x.count(1));
        due("bodies", 2, x.count(2));
        due("names", 1, x.count(3));
        due("seals", 1, x.count(4));
        due("doubts", 0, x.count(5));
        due("unpaired", 2, x.count(6));
        alike(x, 2, 1, 1, 1);
        due("unpaired then", 1, x.count(6));
        x.sex(0, 0, 1);
        x.sex(1, 1, 2);
        due("doubts then", 1, x.count(5));
        due("a given one stays paired", 1, x.count(6));
        x.unname(0);
        due("names after", 0, x.count(3));
        due("doubts after", 0, x.count(5));
        due("unpaired after", 2, x.count(6));
        feedText(x, "x");
        due("bytes", 20, x.count(7));
        due("need", 5, x.count(8));
        due("margin", 5, x.count(9));
        due("seals needed", 1, x.count(10));
        due("11", NONE, x.count(11));
        due("-1", NONE, x.count(-1));
    }
}
