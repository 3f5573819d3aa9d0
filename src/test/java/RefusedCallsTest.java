import java.util.ArrayList;
import java.util.List;
import java.util.function.ToLongFunction;

/**
 * "Doing nothing": of two houses made alike one is asked a call that is refused, or that only asks; then both
 * must answer the same to everything, down to what later seals, feeds, laws and files answer.
 */
public final class RefusedCallsTest extends Edges {
    /** How a house is made: with few files and all that may be known, or full of files, seals and bytes. */
    private enum Kind { FEW, FULL, EMPTY }

    public static void main(String[] args) {
        filesRefused();
        mendingRefused();
        tissueRefused();
        piecesRefused();
        joiningRefused();
        sealsRefused();
        givingRefused();
        unnamingRefused();
        feedingRefused();
        lawRefused();
        askingDoesNothing();
        end();
    }

    private static void refused(Kind kind, String what, long want, ToLongFunction<NamedAgain> call) {
        NamedAgain asked = make(kind);
        NamedAgain other = make(kind);
        due(what, want, call.applyAsLong(asked));
        same(kind, what, asked, other);
    }

    private static void same(Kind kind, String what, NamedAgain asked, NamedAgain other) {
        List<Long> got = everything(kind, asked);
        List<Long> want = everything(kind, other);
        for (int i = 0; i < want.size(); i++) {
            due(kind + " house, answer " + i + " after " + what, want.get(i), got.get(i));
        }
    }

    private static NamedAgain make(Kind kind) {
        return kind == Kind.FEW ? few() : kind == Kind.FULL ? full() : new NamedAgain();
    }

    /**
     * 3 missing, 4 found: 1 and 2 are a body with the name 1; 0 is paired with 0, and lacks a seal; 3 has none.
     * A fault lies at 4, and 20 bytes are on the tape.
     */
    private static NamedAgain few() {
        NamedAgain x = house(3, 4);
        for (int i = 0; i < 3; i++) {
            for (int tooth = 0; tooth < 8; tooth++) {
                x.tooth(0, i, tooth, 1);
                x.tooth(1, i, tooth, 1 + (tooth + i) % 3);
            }
            alike(x, i, i, i, 3 + i);
            x.age(0, i, 20 + i, 50 + i);
            x.age(1, i, 30 - i, 60 - i);
            x.tissue(0, i, i, 2, 5);
            x.tissue(1, i, i, 5, 2);
            x.tissue(2, i, i, 2, 9);
            x.pieces(i, 1 << i);
        }
        x.sex(0, 0, 1);
        x.sex(1, 0, 1);
        x.join(2, 1);
        lawOf(x, "need 1; margin 0; seals 1; tissue 5 is 9;");
        x.seal(1, 1, 3);
        due("the name of the few", 1, x.give(2));
        lawOf(x, "need 7; margin 2; seals 3; mark 0 is 8;");
        x.seal(0, 0, 1);
        x.seal(0, 0, 2);
        lawOf(x, "need;");
        feedText(x, "need 33; margin 44;");
        return x;
    }

    private static NamedAgain full() {
        NamedAgain x = house(12, 12);
        for (int i = 0; i < 12; i++) {
            alike(x, i, i, i / 9, 1 + i % 9);
        }
        for (int missing = 0; missing < 6; missing++) {
            for (int person = 0; person < 10; person++) {
                x.seal(missing, missing, person);
            }
        }
        for (int i = 0; i < 25; i++) {
            feedText(x, "parent " + (100 + i) + ";");
        }
        return x;
    }

    /** What a house answers, at most 370 calls: those that change it come last, and tell what can't be asked. */
    private static List<Long> everything(Kind kind, NamedAgain x) {
        List<Long> all = new ArrayList<>();
        int found = x.count(1);
        int missing = x.count(0);
        int whats = kind == Kind.FULL ? 5 : 33;
        for (int what = 0; what <= 10; what++) {
            all.add((long) x.count(what));
        }
        all.add((long) x.fault());
        all.add((long) x.pairing(NONE));
        for (int file = 0; file < found; file++) {
            for (int what = 0; what < whats; what++) {
                if (what < 5 || what >= 10) {
                    all.add((long) x.told(file, what));
                }
            }
            all.add((long) x.body(file));
            all.add((long) x.pairing(file));
            all.add((long) x.margin(file));
            all.add((long) x.named(file, 0));
            all.add((long) x.named(file, 1));
            for (int other = 0; other < missing; other++) {
                if (kind == Kind.FEW || other % 3 == file % 3) {
                    all.add((long) x.shut(file, other));
                    all.add((long) x.points(file, other));
                }
            }
        }
        later(x, all);
        return all;
    }

    private static void later(NamedAgain x, List<Long> all) {
        for (int person = 0; person < 5; person++) {
            all.add((long) x.seal(0, 0, person));
            all.add((long) x.seal(1, 1, person));
            all.add((long) x.seal(3, 2, person));
        }
        all.add((long) x.give(0));
        all.add((long) x.count(4));
        all.add((long) x.feed(0x20202020, 0x20202020, 0x20202020, 0x20202020, 0x6e656564));
        all.add((long) x.law(x.count(7)));
        all.add((long) x.fault());
        for (int what = 7; what <= 10; what++) {
            all.add((long) x.count(what));
        }
        all.add((long) x.file(0));
        all.add((long) x.file(1));
        all.add((long) x.body(4));
        all.add((long) x.told(4, 2));
    }

    private static void filesRefused() {
        sentence("NONE, doing nothing: side isn't 0, 1; 12 are there.");
        for (int side : outside(0, 1)) {
            refused(Kind.FEW, "file " + side, NONE, x -> x.file(side));
            refused(Kind.EMPTY, "file " + side, NONE, x -> x.file(side));
        }
        refused(Kind.FULL, "a 13th missing one", NONE, x -> x.file(0));
        refused(Kind.FULL, "a 13th found one", NONE, x -> x.file(1));
    }

    private static void mendingRefused() {
        sentence("false: not as told. (So with all that mend FILES.)");
        for (int side : outside(0, 1)) {
            mendRefused(side, 0);
        }
        for (int side = 0; side < 2; side++) {
            int s = side;
            for (int odd : outside(0, 2 + side)) {
                mendRefused(side, odd);
            }
            for (int odd : outside(0, 2)) {
                refused(Kind.FEW, "sex " + odd, 0, x -> x.sex(s, 0, odd) ? 1 : 0);
            }
            for (int odd : outside(0, 7)) {
                refused(Kind.FEW, "tooth " + odd, 0, x -> x.tooth(s, 0, odd, 3) ? 1 : 0);
            }
            for (int odd : outside(0, 3)) {
                refused(Kind.FEW, "tooth 0 is " + odd, 0, x -> x.tooth(s, 0, 0, odd) ? 1 : 0);
                refused(Kind.FEW, "mark " + odd, 0, x -> x.mark(s, 0, odd, 9) ? 1 : 0);
            }
            for (int odd : outside(0, 9)) {
                refused(Kind.FEW, "mark 0 is " + odd, 0, x -> x.mark(s, 0, 0, odd) ? 1 : 0);
            }
            for (int odd : outside(0, 120)) {
                refused(Kind.FEW, "age from " + odd, 0, x -> x.age(s, 0, odd, 40) ? 1 : 0);
                refused(Kind.FEW, "age to " + odd, 0, x -> x.age(s, 0, 40, odd) ? 1 : 0);
            }
            refused(Kind.FEW, "age 41 to 40", 0, x -> x.age(s, 0, 41, 40) ? 1 : 0);
            refused(Kind.FEW, "age 120 to 0", 0, x -> x.age(s, 0, 120, 0) ? 1 : 0);
        }
    }

    private static void mendRefused(int side, int file) {
        String of = " of side " + side + ", file " + file;
        refused(Kind.FEW, "sex" + of, 0, x -> x.sex(side, file, 2) ? 1 : 0);
        refused(Kind.FEW, "age" + of, 0, x -> x.age(side, file, 1, 2) ? 1 : 0);
        refused(Kind.FEW, "tooth" + of, 0, x -> x.tooth(side, file, 0, 3) ? 1 : 0);
        refused(Kind.FEW, "mark" + of, 0, x -> x.mark(side, file, 0, 9) ? 1 : 0);
    }

    private static void tissueRefused() {
        sentence("False: not as told (a, b 1 to 9, else a 0).");
        for (int side : outside(0, 2)) {
            refused(Kind.FEW, "side " + side, 0, x -> x.tissue(side, 0, 0, 1, 1) ? 1 : 0);
            refused(Kind.FEW, "side " + side + " torn out", 0, x -> x.tissue(side, 0, 0, 0, 0) ? 1 : 0);
        }
        for (int side = 0; side < 3; side++) {
            int s = side;
            for (int odd : outside(0, side == 1 ? 3 : 2)) {
                refused(Kind.FEW, "file " + odd, 0, x -> x.tissue(s, odd, 0, 1, 1) ? 1 : 0);
                refused(Kind.FEW, "file " + odd + " torn out", 0, x -> x.tissue(s, odd, 0, 0, 0) ? 1 : 0);
            }
            for (int odd : outside(0, 2)) {
                refused(Kind.FEW, "sheet " + odd, 0, x -> x.tissue(s, 0, odd, 1, 1) ? 1 : 0);
                refused(Kind.FEW, "sheet " + odd + " torn out", 0, x -> x.tissue(s, 0, odd, 0, 0) ? 1 : 0);
            }
            for (int odd : outside(0, 9)) {
                refused(Kind.FEW, "a " + odd, 0, x -> x.tissue(s, 0, 0, odd, 1) ? 1 : 0);
                refused(Kind.FEW, "b " + odd, 0, x -> x.tissue(s, 0, 0, 1, odd) ? 1 : 0);
            }
            refused(Kind.FEW, "b 0", 0, x -> x.tissue(s, 0, 0, 1, 0) ? 1 : 0);
        }
    }

    private static void piecesRefused() {
        sentence("False, doing nothing: not as told; its BODY would have one twice.");
        for (int odd : outside(0, 3)) {
            refused(Kind.FEW, "file " + odd, 0, x -> x.pieces(odd, 64) ? 1 : 0);
        }
        for (int odd : outside(0, 255)) {
            refused(Kind.FEW, "pieces " + odd, 0, x -> x.pieces(0, odd) ? 1 : 0);
        }
        refused(Kind.FEW, "the other's piece", 0, x -> x.pieces(1, 4) ? 1 : 0);
        refused(Kind.FEW, "the first's piece", 0, x -> x.pieces(2, 2) ? 1 : 0);
        refused(Kind.FEW, "the other's among more", 0, x -> x.pieces(1, 255) ? 1 : 0);
    }

    private static void joiningRefused() {
        sentence("false, doing nothing: they can't be");
        for (int odd : outside(0, 3)) {
            refused(Kind.FEW, "join " + odd + " and 3", 0, x -> x.join(odd, 3) ? 1 : 0);
            refused(Kind.FEW, "join 3 and " + odd, 0, x -> x.join(3, odd) ? 1 : 0);
        }
        refused(Kind.FEW, "itself", 0, x -> x.join(3, 3) ? 1 : 0);
        refused(Kind.FEW, "one body", 0, x -> x.join(2, 1) ? 1 : 0);
        refused(Kind.FEW, "one of both has a name", 0, x -> x.join(2, 3) ? 1 : 0);
        refused(Kind.FEW, "one of both has a name, turned", 0, x -> x.join(0, 1) ? 1 : 0);
        refused(Kind.FULL, "none such", 0, x -> x.join(0, 12) ? 1 : 0);
    }

    private static void sealsRefused() {
        sentence("NONE, doing nothing: none such; -2: that one did; -3: 60 are there.");
        for (int odd : outside(0, 3)) {
            refused(Kind.FEW, "found " + odd, NONE, x -> x.seal(odd, 0, 0));
        }
        for (int odd : outside(0, 2)) {
            refused(Kind.FEW, "missing " + odd, NONE, x -> x.seal(0, odd, 0));
        }
        for (int odd : outside(0, 9)) {
            refused(Kind.FEW, "person " + odd, NONE, x -> x.seal(0, 0, odd));
            refused(Kind.FULL, "person " + odd, NONE, x -> x.seal(0, 0, odd));
        }
        refused(Kind.FEW, "that one did", -2, x -> x.seal(0, 0, 1));
        refused(Kind.FULL, "that one did, of 60", -2, x -> x.seal(5, 5, 9));
        refused(Kind.FULL, "a 61st", -3, x -> x.seal(6, 6, 0));
        refused(Kind.FULL, "a 61st on another pair", -3, x -> x.seal(0, 1, 0));
    }

    private static void givingRefused() {
        sentence("Refused, doing nothing, at the first of");
        for (int odd : outside(0, 3)) {
            refused(Kind.FEW, "give " + odd, -2, x -> x.give(odd));
        }
        refused(Kind.FEW, "has a name", -2, x -> x.give(1));
        refused(Kind.FEW, "has a name by its second", -2, x -> x.give(2));
        refused(Kind.FEW, "none in the pairing", -3, x -> x.give(3));
        refused(Kind.FEW, "seals lack", -6, x -> x.give(0));
        refused(Kind.FULL, "points below NEED", -4, x -> x.give(0));
        refusedByLaw("points below NEED", "need 999; margin 0; seals 1;", -4);
        refusedByLaw("margin too small", "need 0; margin 999; seals 1;", -5);
        refusedByLaw("seals lack", "need 0; margin 0; seals 3;", -6);
    }

    private static void refusedByLaw(String what, String law, int want) {
        NamedAgain asked = few();
        NamedAgain other = few();
        asked.law(0);
        other.law(0);
        lawOf(asked, law);
        lawOf(other, law);
        due(what, want, asked.give(0));
        same(Kind.FEW, what, asked, other);
    }

    private static void unnamingRefused() {
        sentence("false, doing nothing: there is none, no DOUBT");
        for (int odd : outside(0, 3)) {
            refused(Kind.FEW, "unname " + odd, 0, x -> x.unname(odd) ? 1 : 0);
        }
        refused(Kind.FEW, "no doubt", 0, x -> x.unname(1) ? 1 : 0);
        refused(Kind.FEW, "no doubt by its second", 0, x -> x.unname(2) ? 1 : 0);
        refused(Kind.FEW, "no name", 0, x -> x.unname(0) ? 1 : 0);
    }

    private static void feedingRefused() {
        sentence("NONE, doing nothing: there would be more than 500.");
        refused(Kind.FULL, "bytes", NONE, x -> x.feed(0x78787878, 0x78787878, 0x78787878, 0x78787878, 0x78787878));
        refused(Kind.FULL, "blanks", NONE, x -> x.feed(0x20202020, 0x20202020, 0x20202020, 0x20202020, 0x20202020));
    }

    private static void lawRefused() {
        sentence("-2, doing nothing: n is below 0 or more than there are.");
        for (int odd : outside(0, 20)) {
            refused(Kind.FEW, "law of " + odd, -2, x -> x.law(odd));
        }
        for (int odd : outside(0, 500)) {
            refused(Kind.FULL, "law of " + odd, -2, x -> x.law(odd));
        }
        refused(Kind.EMPTY, "law of 1", -2, x -> x.law(1));
    }

    private static void askingDoesNothing() {
        sentence("Nothing is promised beyond the answers and state changes described above");
        NamedAgain asked = few();
        NamedAgain other = few();
        for (int found = -1; found <= 4; found++) {
            for (int what = -1; what <= 4; what++) {
                asked.unfit(found, what);
                asked.told(found, what);
                asked.shut(found, what);
                asked.points(found, what);
                asked.named(found, what);
            }
            asked.body(found);
            asked.pairing(found);
            asked.margin(found);
        }
        for (int what = -1; what <= 11; what++) {
            asked.count(what);
        }
        asked.fault();
        same(Kind.EMPTY, "asking", asked, other);
    }
}
