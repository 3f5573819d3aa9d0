/** The edges of promises 9 to 12 and of what the terms say of BODIES. */
public final class EdgesOfBodiesTest extends Edges {
    public static void main(String[] args) {
        aloneAtFirst();
        numberedAsTheLeast();
        allInOneBody();
        firstThatKnows();
        firstByNumbersNotByJoining();
        ageOfABody();
        notAsTold();
        aPieceAlike();
        sexesKnownAndUnlike();
        agesThatDontMeet();
        agesOfABodyThatFellApart();
        sheetKnownAndUnlike();
        teethAndMarksDontMatter();
        aNameOfOne();
        theFirstOfSixGrounds();
        joined();
        cantBeJoined();
        bodyOfNone();
        whatIsTold();
        toldOfNone();
        end();
    }

    private static void aloneAtFirst() {
        sentence("each FOUND one alone at first");
        NamedAgain x = house(1, 12);
        for (int i = 0; i < 12; i++) {
            due("body of " + i, i, x.body(i));
            due("found ones in " + i, 1, x.told(i, 4));
        }
        due("bodies", 12, x.count(2));
        due("two can be joined", 0, x.unfit(0, 11));
    }

    private static void numberedAsTheLeast() {
        sentence("JOINED to one another they are one BODY, numbered as its least FOUND one");
        NamedAgain x = house(0, 6);
        yes("5 and 4", x.join(5, 4));
        due("5", 4, x.body(5));
        due("4", 4, x.body(4));
        yes("1 and 3", x.join(1, 3));
        due("3", 1, x.body(3));
        yes("the greater body's second with the lesser's second", x.join(5, 3));
        for (int file : new int[] {1, 3, 4, 5}) {
            due("body of " + file, 1, x.body(file));
            due("found ones by " + file, 4, x.told(file, 4));
        }
        due("2 is alone", 2, x.body(2));
        due("0 is alone", 0, x.body(0));
        yes("5 and 0", x.join(5, 0));
        for (int file : new int[] {0, 1, 3, 4, 5}) {
            due("body then of " + file, 0, x.body(file));
        }
        due("2 is alone still", 2, x.body(2));
        due("bodies", 2, x.count(2));
    }

    private static void allInOneBody() {
        sentence("BODIES: each FOUND one alone at first; JOINED to one another they are one BODY");
        NamedAgain x = house(0, 12);
        for (int i = 0; i < 8; i++) {
            x.pieces(11 - i, 1 << i);
        }
        for (int i = 10; i >= 0; i--) {
            yes("the body of " + (i + 1) + " and " + i, x.join(11, i));
            due("the last's", i, x.body(11));
            due("found ones", 12 - i, x.told(11, 4));
            due("bodies", i + 1, x.count(2));
        }
        due("all pieces", 255, x.told(5, 3));
        due("all are one", 1, x.unfit(0, 11));
        no("nothing is left to be joined", x.join(3, 7));
    }

    private static void firstThatKnows() {
        sentence("A BODY knows of each thing what the first of its FOUND ones (by numbers) that knows it does");
        NamedAgain x = house(0, 4);
        x.join(0, 1);
        x.join(2, 3);
        x.join(0, 2);
        for (int file = 3; file >= 0; file--) {
            learn(x, file, 1 + file % 2);
            knows(x, 1 + file % 2);
        }
        for (int file = 0; file < 3; file++) {
            learn(x, file, 0);
            knows(x, 1 + (file + 1) % 2);
        }
        learn(x, 3, 0);
        knows(x, 0);
    }

    /** Tells a found one the same of every thing, 0 being not known. */
    private static void learn(NamedAgain x, int file, int value) {
        x.sex(1, file, value);
        for (int tooth = 0; tooth < 8; tooth++) {
            x.tooth(1, file, tooth, value);
        }
        for (int mark = 0; mark < 4; mark++) {
            x.mark(1, file, mark, value);
        }
        for (int sheet = 0; sheet < 3; sheet++) {
            x.tissue(1, file, sheet, value, value);
        }
    }

    private static void knows(NamedAgain x, int value) {
        due("sex", value, x.told(3, 0));
        for (int tooth = 0; tooth < 8; tooth++) {
            due("tooth " + tooth, value, x.told(2, 10 + tooth));
        }
        for (int mark = 0; mark < 4; mark++) {
            due("mark " + mark, value, x.told(1, 20 + mark));
        }
        for (int sheet = 0; sheet < 3; sheet++) {
            due("sheet " + sheet, 11 * value, x.told(0, 30 + sheet));
        }
    }

    /** 2 is joined to 3 before 1 comes; 1 knows only the mark, and 2 knows the rest before 3. */
    private static void firstByNumbersNotByJoining() {
        sentence("the first of its FOUND ones (by numbers)");
        NamedAgain x = house(0, 4);
        for (int file = 1; file < 4; file++) {
            x.mark(1, file, 0, 4 + file);
        }
        x.tooth(1, 3, 0, 3);
        x.tooth(1, 2, 0, 2);
        x.tissue(1, 3, 2, 1, 2);
        yes("3 and 2", x.join(3, 2));
        due("mark of 2", 6, x.told(3, 20));
        yes("2 and 1", x.join(3, 1));
        due("mark of 1", 5, x.told(3, 20));
        due("tooth of 2", 2, x.told(3, 10));
        due("sheet of 3", 12, x.told(1, 32));
        due("a mark that nobody knows", 0, x.told(1, 21));
        yes("1 and 0", x.join(0, 2));
        due("0 doesn't know the mark", 5, x.told(0, 20));
    }

    private static void ageOfABody() {
        sentence("its AGE is from the greatest \"from\" to the least \"to\"");
        for (int greatest = 0; greatest < 3; greatest++) {
            for (int least = 0; least < 3; least++) {
                NamedAgain x = house(0, 3);
                for (int file = 0; file < 3; file++) {
                    x.age(1, file, file == greatest ? 30 : 29, file == least ? 40 : 41);
                }
                x.join(2, 1);
                x.join(1, 0);
                due("from of " + greatest, 30, x.told(0, 1));
                due("to of " + least, 40, x.told(0, 2));
            }
        }
        NamedAgain y = house(0, 2);
        y.age(1, 1, 0, 60);
        y.age(1, 0, 60, 120);
        yes("joined", y.join(0, 1));
        due("a year in common, from", 60, y.told(0, 1));
        due("a year in common, to", 60, y.told(0, 2));
        y.age(1, 1, 0, 120);
        due("a mended one, from", 60, y.told(1, 1));
        due("a mended one, to", 120, y.told(1, 2));
    }

    private static void notAsTold() {
        sentence("1 not as told (unlike BODIES)");
        NamedAgain x = house(4, 3);
        for (int odd : outside(0, 2)) {
            due("a " + odd, 1, x.unfit(odd, 0));
            due("b " + odd, 1, x.unfit(2, odd));
            due("both " + odd, 1, x.unfit(odd, odd));
        }
        for (int file = 0; file < 3; file++) {
            due("itself, " + file, 1, x.unfit(file, file));
        }
        due("the first and the last", 0, x.unfit(0, 2));
        due("the last and the first", 0, x.unfit(2, 0));
        x.join(0, 2);
        due("one body", 1, x.unfit(0, 2));
        due("one body, turned", 1, x.unfit(2, 0));
        due("another body", 0, x.unfit(2, 1));
        x.file(1);
        due("one more", 0, x.unfit(3, 2));
    }

    private static void aPieceAlike() {
        sentence("2 they have a PIECE alike");
        for (int bit = 0; bit < 8; bit++) {
            NamedAgain x = house(0, 3);
            due("none of both", 0, x.unfit(0, 1));
            x.pieces(0, 1 << bit);
            due("of one alone", 0, x.unfit(0, 1));
            x.pieces(1, 255 - (1 << bit));
            due("all but that", 0, x.unfit(1, 0));
            x.pieces(1, 255);
            due("that among all", 2, x.unfit(0, 1));
            x.pieces(1, 1 << bit);
            due("that", 2, x.unfit(1, 0));
            yes("joined to a third", x.join(1, 2));
            due("of a body's first", 2, x.unfit(2, 0));
            x.pieces(1, 0);
            due("given up", 0, x.unfit(2, 0));
            x.pieces(2, 1 << bit);
            due("of a body's last", 2, x.unfit(0, 1));
        }
    }

    private static void sexesKnownAndUnlike() {
        sentence("3 both SEXES are known and unlike");
        for (int one = 0; one <= 2; one++) {
            for (int two = 0; two <= 2; two++) {
                NamedAgain x = house(0, 3);
                x.sex(1, 0, one);
                x.sex(1, 2, two);
                int want = one != 0 && two != 0 && one != two ? 3 : 0;
                due(one + " and " + two, want, x.unfit(0, 2));
                yes("a third that doesn't know it", x.join(1, 2));
                due(one + " and a body's " + two, want, x.unfit(0, 1));
                due("a body's " + two + " and " + one, want, x.unfit(1, 0));
            }
        }
    }

    private static void agesThatDontMeet() {
        sentence("4 their AGES don't meet");
        NamedAgain x = house(0, 2);
        x.age(1, 0, 30, 40);
        due("at first", 0, x.unfit(0, 1));
        int[][] others = {{0, 29, 4}, {0, 30, 0}, {30, 30, 0}, {35, 35, 0}, {40, 40, 0}, {40, 120, 0}, {41, 120, 4},
            {0, 120, 0}, {41, 41, 4}, {29, 29, 4}, {0, 0, 4}, {120, 120, 4}, {29, 41, 0}};
        for (int[] other : others) {
            x.age(1, 1, other[0], other[1]);
            due("30 to 40, " + other[0] + " to " + other[1], other[2], x.unfit(0, 1));
            due(other[0] + " to " + other[1] + ", 30 to 40", other[2], x.unfit(1, 0));
        }
        NamedAgain y = house(0, 3);
        y.age(1, 0, 10, 50);
        y.age(1, 1, 40, 90);
        y.age(1, 2, 10, 39);
        due("each alone would meet it", 0, y.unfit(0, 2));
        y.join(0, 1);
        due("what both have doesn't", 4, y.unfit(2, 0));
        y.age(1, 2, 10, 40);
        due("what both have does", 0, y.unfit(2, 0));
    }

    /** The document lets a joined file be mended so: no age is from 61 to 60, so none meets it. */
    private static void agesOfABodyThatFellApart() {
        sentence("AGES don't meet");
        NamedAgain x = house(1, 3);
        x.age(1, 0, 0, 60);
        x.join(0, 1);
        yes("a year left", x.age(1, 1, 60, 120));
        due("it meets a third", 0, x.unfit(0, 2));
        due("it meets a missing one", 0, x.shut(0, 0));
        yes("no year left", x.age(1, 1, 61, 120));
        due("from", 61, x.told(0, 1));
        due("to", 60, x.told(0, 2));
        due("it meets no third", 4, x.unfit(0, 2));
        due("it meets no missing one", 2, x.shut(0, 0));
    }

    private static void sheetKnownAndUnlike() {
        sentence("5 a sheet of TISSUE that both know is unlike");
        for (int sheet = 0; sheet < 3; sheet++) {
            NamedAgain x = house(0, 3);
            x.tissue(1, 0, sheet, 3, 4);
            due("known of one", 0, x.unfit(0, 1));
            x.tissue(1, 1, (sheet + 1) % 3, 5, 6);
            due("another sheet known of the other", 0, x.unfit(0, 1));
            x.tissue(1, 1, sheet, 4, 3);
            due("alike", 0, x.unfit(0, 1));
            x.tissue(1, 1, sheet, 3, 3);
            due("the lesser twice", 5, x.unfit(0, 1));
            x.tissue(1, 1, sheet, 4, 4);
            due("the greater twice", 5, x.unfit(1, 0));
            x.tissue(1, 1, sheet, 3, 5);
            due("one number unlike", 5, x.unfit(0, 1));
            x.tissue(1, 1, sheet, 2, 4);
            due("the other number unlike", 5, x.unfit(0, 1));
            yes("joined to a third", x.join(1, 2));
            due("a body's", 5, x.unfit(2, 0));
            x.tissue(1, 1, sheet, 0, 0);
            due("torn out", 0, x.unfit(2, 0));
        }
    }

    private static void teethAndMarksDontMatter() {
        sentence("What two can't be JOINED for, the first of");
        NamedAgain x = house(0, 2);
        for (int tooth = 0; tooth < 8; tooth++) {
            x.tooth(1, 0, tooth, 3);
            x.tooth(1, 1, tooth, 1);
        }
        for (int mark = 0; mark < 4; mark++) {
            x.mark(1, 0, mark, 1);
            x.mark(1, 1, mark, 9);
        }
        due("teeth and marks unlike", 0, x.unfit(0, 1));
        yes("they can be joined", x.join(0, 1));
        due("the first's tooth", 3, x.told(1, 17));
        due("the first's mark", 1, x.told(1, 23));
    }

    private static void aNameOfOne() {
        sentence("6 one of both has a name");
        NamedAgain x = house(2, 4);
        alike(x, 0, 0, 0, 1);
        alike(x, 3, 1, 1, 1);
        due("none has one", 0, x.unfit(0, 3));
        name(x, 0, 0);
        due("the first has one", 6, x.unfit(0, 1));
        due("the second has one", 6, x.unfit(1, 0));
        due("two without", 0, x.unfit(1, 2));
        name(x, 3, 1);
        due("both have one", 6, x.unfit(0, 3));
        x.sex(0, 0, 1);
        x.sex(1, 0, 2);
        due("in doubt", 6, x.unfit(1, 0));
        yes("taken back", x.unname(0));
        due("without again", 0, x.unfit(1, 0));
        due("the other's stays", 6, x.unfit(3, 0));
    }

    /** Every two of the grounds 2 to 6 at once: the lesser is due; then 1 before them all. */
    private static void theFirstOfSixGrounds() {
        sentence("the first of: 1 not as told (unlike BODIES); 2 they have a PIECE alike; 3 both SEXES");
        for (int set = 0; set < 32; set++) {
            NamedAgain x = house(1, 3);
            if ((set & 16) != 0) {
                alike(x, 1, 0, 0, 1);
                name(x, 1, 0);
            }
            if ((set & 1) != 0) {
                x.pieces(0, 129);
                x.pieces(1, 128);
            }
            if ((set & 2) != 0) {
                x.sex(1, 0, 1);
                x.sex(1, 1, 2);
            }
            if ((set & 4) != 0) {
                x.age(1, 0, 0, 50);
                x.age(1, 1, 51, 60);
            }
            if ((set & 8) != 0) {
                x.tissue(1, 0, 1, 1, 2);
                x.tissue(1, 1, 1, 1, 3);
            }
            int want = set == 0 ? 0 : 2 + Integer.numberOfTrailingZeros(set);
            due("grounds " + set, want, x.unfit(0, 1));
            due("grounds " + set + ", turned", want, x.unfit(1, 0));
            due("itself", 1, x.unfit(1, 1));
            due("with none such", 1, x.unfit(1, 3));
            due("joined", want == 0 ? 1 : 0, x.join(0, 1) ? 1 : 0);
            due("bodies", want == 0 ? 2 : 3, x.count(2));
        }
    }

    private static void joined() {
        sentence("JOINED: true");
        NamedAgain x = house(0, 3);
        yes("2 and 0", x.join(2, 0));
        due("one body", 0, x.body(2));
        due("two found ones", 2, x.told(0, 4));
        due("bodies", 2, x.count(2));
        due("the third is alone", 1, x.told(1, 4));
    }

    private static void cantBeJoined() {
        sentence("false, doing nothing: they can't be");
        NamedAgain x = house(3, 3);
        for (int odd : outside(0, 2)) {
            no("a " + odd, x.join(odd, 1));
            no("b " + odd, x.join(1, odd));
        }
        for (int file = 0; file < 3; file++) {
            no("itself, " + file, x.join(file, file));
        }
        x.sex(1, 1, 1);
        x.sex(1, 2, 2);
        no("sexes", x.join(1, 2));
        no("sexes, turned", x.join(2, 1));
        for (int file = 0; file < 3; file++) {
            due("alone, " + file, file, x.body(file));
            due("found ones in " + file, 1, x.told(file, 4));
        }
        due("sex of 2", 2, x.told(2, 0));
        due("bodies", 3, x.count(2));
        x.sex(1, 2, 1);
        yes("sexes alike", x.join(2, 1));
        no("one body already", x.join(1, 2));
        due("bodies then", 2, x.count(2));
    }

    private static void bodyOfNone() {
        sentence("The BODY of a FOUND one. NONE: none such.");
        NamedAgain x = house(5, 2);
        for (int odd : outside(0, 1)) {
            due("body of " + odd, NONE, x.body(odd));
        }
        due("the first's", 0, x.body(0));
        due("the last's", 1, x.body(1));
        NamedAgain full = house(0, 12);
        due("the 12th's", 11, full.body(11));
        due("the 13th's", NONE, full.body(12));
    }

    private static void whatIsTold() {
        sentence("0 SEX, 1 AGE from, 2 to, 3 PIECES, 4 FOUND ones in it, 10 + t TOOTH t, 20 + k MARK k, 30 + s sheet s");
        NamedAgain x = house(0, 1);
        x.sex(1, 0, 2);
        x.age(1, 0, 11, 13);
        x.pieces(0, 200);
        for (int tooth = 0; tooth < 8; tooth++) {
            x.tooth(1, 0, tooth, 1 + tooth % 3);
        }
        for (int mark = 0; mark < 4; mark++) {
            x.mark(1, 0, mark, 6 + mark);
        }
        for (int sheet = 0; sheet < 3; sheet++) {
            x.tissue(1, 0, sheet, 9 - sheet, 1 + sheet);
        }
        int[] first = {2, 11, 13, 200, 1};
        int[] sheets = {19, 28, 37};
        for (int what = -20; what <= 60; what++) {
            int want = NONE;
            if (what >= 0 && what <= 4) {
                want = first[what];
            } else if (what >= 10 && what <= 17) {
                want = 1 + (what - 10) % 3;
            } else if (what >= 20 && what <= 23) {
                want = 6 + what - 20;
            } else if (what >= 30 && what <= 32) {
                want = sheets[what - 30];
            }
            due("what " + what, want, x.told(0, what));
        }
        for (int odd : new int[] {LEAST, LEAST + 9, LEAST + 10, GREATEST, GREATEST - 1, 1000, -1000}) {
            due("what " + odd, NONE, x.told(0, odd));
        }
        NamedAgain y = house(0, 1);
        for (int sheet = 0; sheet < 3; sheet++) {
            due("0 without sheet " + sheet, 0, y.told(0, 30 + sheet));
            y.tissue(1, 0, sheet, 7, 7);
            due("a number twice", 77, y.told(0, 30 + sheet));
        }
    }

    private static void toldOfNone() {
        sentence("Of a BODY (a FOUND one's)");
        NamedAgain x = house(5, 2);
        for (int what : new int[] {0, 1, 2, 3, 4, 10, 17, 20, 23, 30, 32}) {
            for (int odd : outside(0, 1)) {
                due("what " + what + " of " + odd, NONE, x.told(odd, what));
            }
            due("what " + what + " of the first", what == 2 ? 120 : what == 4 ? 1 : 0, x.told(0, what));
            due("what " + what + " of the last", what == 2 ? 120 : what == 4 ? 1 : 0, x.told(1, what));
        }
    }
}
