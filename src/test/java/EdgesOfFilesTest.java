/** The edges of promises 1 to 8 and of what the terms say of FILES. */
public final class EdgesOfFilesTest extends Edges {
    public static void main(String[] args) {
        noFiles();
        twelveASide();
        sideOfAFile();
        sexes();
        ages();
        agesAtFirst();
        fromAtMostTo();
        teeth();
        marks();
        tissueNumbers();
        tissueWhicheverFirst();
        tissueNoneAtFirst();
        tissueTornOut();
        tissueSides();
        parentsSheets();
        piecesBits();
        piecesOfAFoundOne();
        piecesTwice();
        sidesThatMend();
        filesThatMend();
        end();
    }

    private static void noFiles() {
        sentence("No FILES.");
        NamedAgain x = new NamedAgain();
        due("missing ones", 0, x.count(0));
        due("found ones", 0, x.count(1));
        due("bodies", 0, x.count(2));
        for (int side = 0; side < 3; side++) {
            no("sex", x.sex(side, 0, 0));
            no("age", x.age(side, 0, 0, 120));
            no("tooth", x.tooth(side, 0, 0, 0));
            no("mark", x.mark(side, 0, 0, 0));
            no("tissue", x.tissue(side, 0, 0, 0, 0));
        }
        no("pieces", x.pieces(0, 0));
        due("unfit", 1, x.unfit(0, 1));
        no("join", x.join(0, 1));
        due("body", NONE, x.body(0));
        due("told", NONE, x.told(0, 0));
        due("shut", NONE, x.shut(0, 0));
        due("points", NONE, x.points(0, 0));
        due("pairing", SHUT_OUT, x.pairing(0));
        due("the pairing's sum", 0, x.pairing(NONE));
        due("margin", NONE, x.margin(0));
        due("seal", NONE, x.seal(0, 0, 0));
        due("give", -2, x.give(0));
        due("named", NONE, x.named(0, 0));
        due("named in doubt", NONE, x.named(0, 1));
        no("unname", x.unname(0));
        due("the first missing one", 0, x.file(0));
        due("missing ones then", 1, x.count(0));
        due("found ones still", 0, x.count(1));
        due("the first found one", 0, x.file(1));
        due("found ones then", 1, x.count(1));
        due("bodies then", 1, x.count(2));
        yes("sex then", x.sex(1, 0, 0));
    }

    private static void twelveASide() {
        sentence("up to 12 a side, numbered as they come");
        for (int side = 0; side < 2; side++) {
            NamedAgain x = new NamedAgain();
            for (int i = 0; i < 12; i++) {
                due("file " + i + " of side " + side, i, x.file(side));
            }
            due("the 13th of side " + side, NONE, x.file(side));
            due("the 14th of side " + side, NONE, x.file(side));
            due("those of side " + side, 12, x.count(side));
            due("those of the other side", 0, x.count(1 - side));
            due("the other side isn't full", 0, x.file(1 - side));
            due("the other side's next", 1, x.file(1 - side));
            due("those of the other side then", 2, x.count(1 - side));
            yes("the 12th is there", x.sex(side, 11, 1));
            no("the 13th isn't", x.sex(side, 12, 1));
        }
    }

    private static void sideOfAFile() {
        sentence("NONE, doing nothing: side isn't 0, 1");
        NamedAgain x = new NamedAgain();
        for (int side : outside(0, 1)) {
            due("side " + side, NONE, x.file(side));
        }
        due("missing ones", 0, x.count(0));
        due("found ones", 0, x.count(1));
        due("side 0", 0, x.file(0));
        due("side 1", 0, x.file(1));
    }

    private static void sexes() {
        sentence("SEX (0 not known, 1, 2)");
        NamedAgain x = house(1, 1);
        due("at first", 0, x.told(0, 0));
        for (int sex = 0; sex <= 2; sex++) {
            yes("found, " + sex, x.sex(1, 0, sex));
            due("told " + sex, sex, x.told(0, 0));
            for (int other : outside(0, 2)) {
                no("found, " + other, x.sex(1, 0, other));
            }
            due("told still " + sex, sex, x.told(0, 0));
        }
        for (int sex = 2; sex >= 0; sex--) {
            yes("missing, " + sex, x.sex(0, 0, sex));
            for (int other : outside(0, 2)) {
                no("missing, " + other, x.sex(0, 0, other));
            }
            due("the found one's 2 with the missing one's " + sex, sex == 1 ? 1 : 0, x.shut(0, 0));
        }
    }

    private static void ages() {
        sentence("AGE from to (0 to 120");
        for (int side = 0; side < 2; side++) {
            NamedAgain x = house(1, 1);
            yes("0 to 0", x.age(side, 0, 0, 0));
            yes("120 to 120", x.age(side, 0, 120, 120));
            yes("0 to 120", x.age(side, 0, 0, 120));
            yes("50 to 60", x.age(side, 0, 50, 60));
            for (int odd : outside(0, 120)) {
                no("from " + odd + " to 70", x.age(side, 0, odd, 70));
                no("from 40 to " + odd, x.age(side, 0, 40, odd));
                no("from and to " + odd, x.age(side, 0, odd, odd));
            }
            no("all from -1 to 121", x.age(side, 0, -1, 121));
            no("the farthest", x.age(side, 0, LEAST, GREATEST));
            no("the farthest turned", x.age(side, 0, GREATEST, LEAST));
            due("50 to 60 still: 61", 2, meeting(x, 1 - side, 61, 120));
            due("50 to 60 still: 60", 0, meeting(x, 1 - side, 60, 120));
            due("50 to 60 still: 50", 0, meeting(x, 1 - side, 0, 50));
            due("50 to 60 still: 49", 2, meeting(x, 1 - side, 0, 49));
        }
    }

    private static int meeting(NamedAgain x, int side, int from, int to) {
        x.age(side, 0, from, to);
        return x.shut(0, 0);
    }

    private static void agesAtFirst() {
        sentence("0 to 120 at first");
        NamedAgain x = house(1, 1);
        due("from", 0, x.told(0, 1));
        due("to", 120, x.told(0, 2));
        for (int side = 0; side < 2; side++) {
            NamedAgain y = house(1, 1);
            due("meets 0", 0, meeting(y, side, 0, 0));
            due("meets 120", 0, meeting(y, side, 120, 120));
        }
    }

    private static void fromAtMostTo() {
        sentence("AGE from to (from at most to).");
        NamedAgain x = house(1, 1);
        for (int to = 0; to <= 120; to += 30) {
            yes("one year, " + to, x.age(1, 0, to, to));
            no("from above to " + to, x.age(1, 0, to + 1, to));
            due("from still", to, x.told(0, 1));
            due("to still", to, x.told(0, 2));
        }
        yes("119 to 120", x.age(1, 0, 119, 120));
        no("120 to 119", x.age(1, 0, 120, 119));
        due("from 119", 119, x.told(0, 1));
        due("to 120", 120, x.told(0, 2));
        yes("the missing one's", x.age(0, 0, 7, 7));
        no("the missing one's, turned", x.age(0, 0, 8, 7));
    }

    private static void teeth() {
        sentence("8 TEETH (0 not known, 1 sound, 2 filled, 3 gone)");
        NamedAgain x = house(1, 1);
        for (int tooth = 0; tooth < 8; tooth++) {
            due("tooth " + tooth + " at first", 0, x.told(0, 10 + tooth));
            for (int state = 0; state <= 3; state++) {
                yes("tooth " + tooth + " is " + state, x.tooth(1, 0, tooth, state));
                due("told of " + tooth, state, x.told(0, 10 + tooth));
            }
        }
        for (int odd : outside(0, 7)) {
            no("tooth " + odd, x.tooth(1, 0, odd, 1));
            no("the missing one's tooth " + odd, x.tooth(0, 0, odd, 1));
        }
        for (int odd : outside(0, 3)) {
            no("state " + odd, x.tooth(1, 0, 0, odd));
            no("the missing one's state " + odd, x.tooth(0, 0, 7, odd));
        }
        for (int tooth = 0; tooth < 8; tooth++) {
            due("told still of " + tooth, 3, x.told(0, 10 + tooth));
        }
        due("the missing one's aren't known", 0, x.points(0, 0));
        for (int tooth = 0; tooth < 8; tooth++) {
            yes("the missing one's tooth " + tooth, x.tooth(0, 0, tooth, 3));
            due("gone of both up to " + tooth, 6 * (tooth + 1), x.points(0, 0));
        }
    }

    private static void marks() {
        sentence("4 MARKS (0 not known, 1 to 9)");
        NamedAgain x = house(1, 1);
        for (int mark = 0; mark < 4; mark++) {
            due("mark " + mark + " at first", 0, x.told(0, 20 + mark));
            for (int value = 0; value <= 9; value++) {
                yes("mark " + mark + " is " + value, x.mark(1, 0, mark, value));
                due("told of " + mark, value, x.told(0, 20 + mark));
            }
        }
        for (int odd : outside(0, 3)) {
            no("mark " + odd, x.mark(1, 0, odd, 1));
            no("the missing one's mark " + odd, x.mark(0, 0, odd, 1));
        }
        for (int odd : outside(0, 9)) {
            no("value " + odd, x.mark(1, 0, 0, odd));
            no("the missing one's value " + odd, x.mark(0, 0, 3, odd));
        }
        for (int mark = 0; mark < 4; mark++) {
            due("told still of " + mark, 9, x.told(0, 20 + mark));
        }
        due("the missing one's aren't known", 0, x.points(0, 0));
        for (int mark = 0; mark < 4; mark++) {
            yes("the missing one's mark " + mark, x.mark(0, 0, mark, 9));
            due("alike up to " + mark, 5 * (mark + 1), x.points(0, 0));
        }
        yes("the missing one's isn't known any more", x.mark(0, 0, 0, 0));
        due("three alike", 15, x.points(0, 0));
    }

    private static void tissueNumbers() {
        sentence("False: not as told (a, b 1 to 9, else a 0).");
        for (int side = 0; side < 3; side++) {
            NamedAgain x = house(1, 1);
            for (int sheet = 0; sheet < 3; sheet++) {
                yes("1 and 1", x.tissue(side, 0, sheet, 1, 1));
                yes("9 and 9", x.tissue(side, 0, sheet, 9, 9));
                yes("1 and 9", x.tissue(side, 0, sheet, 1, 9));
                no("b 0", x.tissue(side, 0, sheet, 1, 0));
                for (int odd : outside(0, 9)) {
                    no("a " + odd, x.tissue(side, 0, sheet, odd, 5));
                    no("b " + odd, x.tissue(side, 0, sheet, 5, odd));
                    no("a and b " + odd, x.tissue(side, 0, sheet, odd, odd));
                    no("a " + odd + ", b 0", x.tissue(side, 0, sheet, odd, 0));
                }
            }
            for (int odd : outside(0, 2)) {
                no("sheet " + odd, x.tissue(side, 0, odd, 1, 9));
                no("sheet " + odd + " torn out", x.tissue(side, 0, odd, 0, 0));
            }
            due("the found one's sheet 0 still", side == 1 ? 19 : 0, x.told(0, 30));
            due("the found one's sheet 2 still", side == 1 ? 19 : 0, x.told(0, 32));
        }
    }

    private static void tissueWhicheverFirst() {
        sentence("a pair of numbers 1 to 9, whichever first");
        for (int a = 1; a <= 9; a++) {
            NamedAgain x = house(1, 1);
            for (int b = 1; b <= 9; b++) {
                yes("found, " + a + " and " + b, x.tissue(1, 0, 0, a, b));
                due("told " + a + " and " + b, 10 * Math.min(a, b) + Math.max(a, b), x.told(0, 30));
                yes("missing, " + b + " and " + a, x.tissue(0, 0, 0, b, a));
                due("turned is alike", 0, x.shut(0, 0));
                due("what its numbers give", 6, x.points(0, 0));
            }
        }
    }

    private static void tissueNoneAtFirst() {
        sentence("3 sheets of TISSUE (none at first)");
        NamedAgain x = house(1, 1);
        for (int sheet = 0; sheet < 3; sheet++) {
            due("sheet " + sheet + " at first", 0, x.told(0, 30 + sheet));
            yes("sheet " + sheet, x.tissue(1, 0, sheet, 4, 5));
            due("sheet " + sheet + " then", 45, x.told(0, 30 + sheet));
        }
        due("the missing one's are none", 0, x.points(0, 0));
        for (int sheet = 0; sheet < 3; sheet++) {
            yes("the missing one's sheet " + sheet, x.tissue(0, 0, sheet, 4, 5));
            due("known of both up to " + sheet, 6 * (sheet + 1), x.points(0, 0));
        }
    }

    private static void tissueTornOut() {
        sentence("torn out, if a is 0");
        int[] any = {0, 1, 9, 10, -1, LEAST, GREATEST};
        for (int b : any) {
            NamedAgain x = house(1, 1);
            yes("a sheet that isn't there, b " + b, x.tissue(1, 0, 1, 0, b));
            due("still none", 0, x.told(0, 31));
            x.tissue(1, 0, 1, 8, 7);
            yes("b " + b, x.tissue(1, 0, 1, 0, b));
            due("gone", 0, x.told(0, 31));
            x.tissue(1, 0, 1, 8, 7);
            x.tissue(0, 0, 1, 8, 8);
            x.tissue(2, 0, 1, 9, 9);
            due("the missing one's is unlike", 4, x.shut(0, 0));
            yes("the missing one's, b " + b, x.tissue(0, 0, 1, 0, b));
            due("the parent's is strange", 5, x.shut(0, 0));
            yes("the parent's, b " + b, x.tissue(2, 0, 1, 0, b));
            due("nothing is known of both", 0, x.shut(0, 0));
            due("no points", 0, x.points(0, 0));
            due("the found one's stays", 78, x.told(0, 31));
            no("of no file", x.tissue(1, 1, 1, 0, b));
            no("of no parent", x.tissue(2, 1, 1, 0, b));
        }
    }

    private static void tissueSides() {
        sentence("A sheet 0 to 2 of TISSUE (side 0, 1), of a PARENT (side 2)");
        NamedAgain x = house(1, 1);
        for (int side : outside(0, 2)) {
            no("side " + side, x.tissue(side, 0, 0, 1, 1));
            no("side " + side + " torn out", x.tissue(side, 0, 0, 0, 0));
        }
        yes("side 1", x.tissue(1, 0, 0, 1, 2));
        due("the found one's alone", 0, x.points(0, 0));
        yes("side 0", x.tissue(0, 0, 0, 2, 1));
        due("the missing one's too", 6, x.points(0, 0));
        yes("side 2", x.tissue(2, 0, 0, 2, 2));
        due("the parent's too", 8, x.points(0, 0));
    }

    private static void parentsSheets() {
        sentence("a MISSING one may have 3 sheets of a PARENT's TISSUE (none at first)");
        NamedAgain x = house(2, 1);
        for (int sheet = 0; sheet < 3; sheet++) {
            x.tissue(1, 0, sheet, 3, 6);
        }
        due("none at first", 0, x.shut(0, 0));
        due("none at first, so no points", 0, x.points(0, 0));
        for (int sheet = 0; sheet < 3; sheet++) {
            yes("sheet " + sheet, x.tissue(2, 0, sheet, 6, 7));
            due("known of both up to " + sheet, 2 * (sheet + 1), x.points(0, 0));
        }
        due("the other missing one's parent knows nothing", 0, x.points(0, 1));
        yes("as many parents as missing ones", x.tissue(2, 1, 0, 1, 1));
        due("the other's parent is strange", 5, x.shut(0, 1));
        no("no parent of a third", x.tissue(2, 2, 0, 1, 1));
        NamedAgain y = house(1, 3);
        no("a found one has no parent", y.tissue(2, 1, 0, 1, 1));
    }

    private static void piecesBits() {
        sentence("PIECES of a FOUND one (0 to 255).");
        NamedAgain x = house(0, 1);
        due("at first", 0, x.told(0, 3));
        for (int bit = 0; bit < 8; bit++) {
            yes("bit " + bit, x.pieces(0, 1 << bit));
            due("told " + bit, 1 << bit, x.told(0, 3));
        }
        yes("all", x.pieces(0, 255));
        for (int odd : outside(0, 255)) {
            no("pieces " + odd, x.pieces(0, odd));
        }
        due("all still", 255, x.told(0, 3));
        yes("254", x.pieces(0, 254));
        due("told 254", 254, x.told(0, 3));
        yes("none", x.pieces(0, 0));
        due("told none", 0, x.told(0, 3));
        no("bit 8", x.pieces(0, 256));
        no("the sign", x.pieces(0, LEAST));
        due("none still", 0, x.told(0, 3));
    }

    private static void piecesOfAFoundOne() {
        sentence("A FOUND one has PIECES");
        NamedAgain x = house(3, 2);
        for (int odd : outside(0, 1)) {
            no("file " + odd, x.pieces(odd, 1));
            no("file " + odd + " with none", x.pieces(odd, 0));
        }
        yes("the first", x.pieces(0, 1));
        yes("the last", x.pieces(1, 1));
        due("the first's", 1, x.told(0, 3));
        due("the last's", 1, x.told(1, 3));
    }

    private static void piecesTwice() {
        sentence("its BODY would have one twice");
        for (int bit = 0; bit < 8; bit++) {
            int piece = 1 << bit;
            NamedAgain x = house(0, 3);
            x.pieces(2, piece);
            yes("alone, two may have one alike", x.pieces(0, piece));
            x.pieces(0, 0);
            x.join(0, 2);
            no("piece " + bit + " of the other", x.pieces(0, piece));
            no("piece " + bit + " among all", x.pieces(0, 255));
            due("nothing was done", piece, x.told(0, 3));
            yes("all but that", x.pieces(0, 255 - piece));
            due("all", 255, x.told(2, 3));
            yes("its own again", x.pieces(2, piece));
            no("the other's, by the last", x.pieces(2, 255));
            yes("a third alone", x.pieces(1, 255));
            yes("its own fewer", x.pieces(0, 0));
            yes("those that came free", x.pieces(2, 255));
            due("all again", 255, x.told(0, 3));
        }
    }

    private static void sidesThatMend() {
        sentence("(So with all that mend FILES.)");
        NamedAgain x = house(1, 1);
        for (int side : outside(0, 1)) {
            no("sex of side " + side, x.sex(side, 0, 1));
            no("age of side " + side, x.age(side, 0, 1, 2));
            no("tooth of side " + side, x.tooth(side, 0, 0, 1));
            no("mark of side " + side, x.mark(side, 0, 0, 1));
        }
        for (int side = 0; side < 2; side++) {
            yes("sex of side " + side, x.sex(side, 0, 1));
            yes("age of side " + side, x.age(side, 0, 1, 2));
            yes("tooth of side " + side, x.tooth(side, 0, 0, 1));
            yes("mark of side " + side, x.mark(side, 0, 0, 1));
        }
    }

    /** One side has two files and the other five, so a file of the wrong side would be taken. */
    private static void filesThatMend() {
        sentence("SEX of a FILE: true; false: not as told.");
        for (int side = 0; side < 3; side++) {
            boolean found = side == 1;
            NamedAgain x = house(found ? 5 : 2, found ? 2 : 5);
            for (int odd : outside(0, 1)) {
                mendAll(x, side, odd, false);
            }
            mendAll(x, side, 0, true);
            mendAll(x, side, 1, true);
            if (found) {
                x.file(1);
            } else {
                x.file(0);
            }
            mendAll(x, side, 2, true);
            mendAll(x, side, 3, false);
        }
    }

    private static void mendAll(NamedAgain x, int side, int file, boolean there) {
        int want = there ? 1 : 0;
        due("sheet of side " + side + ", file " + file, want, x.tissue(side, file, 0, 1, 2) ? 1 : 0);
        if (side == 2) {
            return;
        }
        due("sex of side " + side + ", file " + file, want, x.sex(side, file, 1) ? 1 : 0);
        due("age of side " + side + ", file " + file, want, x.age(side, file, 3, 4) ? 1 : 0);
        due("tooth of side " + side + ", file " + file, want, x.tooth(side, file, 7, 1) ? 1 : 0);
        due("mark of side " + side + ", file " + file, want, x.mark(side, file, 3, 1) ? 1 : 0);
    }
}
