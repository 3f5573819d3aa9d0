/** The edges of promises 17 to 20 and 24 and of what the terms say of SEALS, names GIVEN and DOUBT. */
public final class EdgesOfNamesTest extends Edges {
    public static void main(String[] args) {
        personsNoughtToNine();
        sealOfNone();
        thatOneDid();
        sixtySeals();
        sixtyWithThoseOfNoPair();
        sealsOfAJoinedBody();
        sealsOfAnyPair();
        giveOfNone();
        noneInThePairing();
        pointsAtLeastNeed();
        marginAtLeastMargin();
        sealsOfAsManyPersons();
        theFirstRefusal();
        givenOnce();
        nameOfABody();
        doubt();
        namedOfNone();
        takenBack();
        notTakenBack();
        countsOfFiles();
        countsOfNames();
        countOfMissingWithoutBody();
        countsOfTheLaw();
        countOfOthers();
        theLastCall();
        end();
    }

    private static void personsNoughtToNine() {
        sentence("SEALS of a pair by PERSONS 0 to 9");
        NamedAgain x = house(1, 1);
        for (int odd : outside(0, 9)) {
            due("person " + odd, NONE, x.seal(0, 0, odd));
        }
        due("no seal came", 0, x.count(4));
        for (int person = 9; person >= 0; person--) {
            due("person " + person, 10 - person, x.seal(0, 0, person));
            due("seals", 10 - person, x.count(4));
        }
        due("person 10 still", NONE, x.seal(0, 0, 10));
        due("person -1 still", NONE, x.seal(0, 0, -1));
        due("ten seals", 10, x.count(4));
    }

    private static void sealOfNone() {
        sentence("NONE, doing nothing: none such");
        NamedAgain x = house(2, 4);
        for (int odd : outside(0, 3)) {
            due("found " + odd, NONE, x.seal(odd, 0, 0));
        }
        for (int odd : outside(0, 1)) {
            due("missing " + odd, NONE, x.seal(0, odd, 0));
        }
        due("no seal came", 0, x.count(4));
        due("the last of both", 1, x.seal(3, 1, 0));
        due("the first of both", 1, x.seal(0, 0, 0));
        due("two seals", 2, x.count(4));
    }

    private static void thatOneDid() {
        sentence("-2: that one did");
        NamedAgain x = house(2, 2);
        due("first", 1, x.seal(0, 0, 4));
        due("again", -2, x.seal(0, 0, 4));
        due("once more", -2, x.seal(0, 0, 4));
        due("one seal", 1, x.count(4));
        due("another person", 2, x.seal(0, 0, 5));
        due("the same on another name", 1, x.seal(0, 1, 4));
        due("the same on another body", 1, x.seal(1, 0, 4));
        due("the same on both others", 1, x.seal(1, 1, 4));
        due("each once", -2, x.seal(1, 0, 4));
        due("each once more", -2, x.seal(0, 1, 4));
        due("five seals", 5, x.count(4));
    }

    private static void sixtySeals() {
        sentence("-3: 60 are there");
        NamedAgain x = house(7, 2);
        for (int missing = 0; missing < 6; missing++) {
            for (int person = 0; person < 10; person++) {
                if (missing < 5 || person < 9) {
                    due("seal", person + 1, x.seal(1, missing, person));
                }
            }
        }
        due("59", 59, x.count(4));
        due("that one did, with one left", -2, x.seal(1, 0, 0));
        due("the 60th", 1, x.seal(0, 6, 3));
        due("60", 60, x.count(4));
        due("the 61st", -3, x.seal(1, 5, 9));
        due("the 61st on a pair without", -3, x.seal(0, 0, 0));
        due("60 still", 60, x.count(4));
        due("none such before full: person", NONE, x.seal(0, 0, 10));
        due("none such before full: found", NONE, x.seal(2, 0, 0));
        due("none such before full: missing", NONE, x.seal(0, 7, 0));
        due("that one did before full", -2, x.seal(0, 6, 3));
        due("that one did before full, the first", -2, x.seal(1, 0, 0));
    }

    private static void sixtyWithThoseOfNoPair() {
        sentence("(those on a BODY that is JOINED to a lesser one are of no pair any more, but count among SEALS)");
        NamedAgain x = house(6, 2);
        for (int missing = 0; missing < 6; missing++) {
            for (int person = 0; person < 10; person++) {
                x.seal(1, missing, person);
            }
        }
        due("60", 60, x.count(4));
        x.join(0, 1);
        due("60 still", 60, x.count(4));
        due("no room though none is of a pair", -3, x.seal(1, 0, 0));
        due("nor by the first", -3, x.seal(0, 5, 9));
    }

    private static void sealsOfAJoinedBody() {
        sentence("those on a BODY that is JOINED to a lesser one are of no pair any more");
        NamedAgain x = house(2, 4);
        alike(x, 1, 0, 0, 1);
        lawOf(x, "need 5; margin 5; seals 2;");
        x.seal(1, 0, 1);
        x.seal(3, 0, 2);
        x.seal(3, 0, 3);
        x.seal(3, 0, 4);
        yes("3 is joined to 1", x.join(3, 1));
        due("the lesser's is there", -2, x.seal(3, 0, 1));
        due("the greater's lack", -6, x.give(1));
        due("five are needed no more than two", 2, x.seal(3, 0, 2));
        due("with its second it is given", 0, x.give(3));
        NamedAgain y = house(1, 3);
        y.seal(1, 0, 1);
        y.seal(2, 0, 1);
        y.seal(0, 0, 2);
        yes("1 and 2", y.join(1, 2));
        due("of 1", -2, y.seal(2, 0, 1));
        yes("0 and 2", y.join(2, 0));
        due("of 0", -2, y.seal(2, 0, 2));
        due("of 1 no more", 2, y.seal(2, 0, 1));
        due("all count", 4, y.count(4));
    }

    private static void sealsOfAnyPair() {
        sentence("A SEAL on the pair of a FOUND one's BODY with a MISSING one: how many PERSONS sealed it.");
        NamedAgain x = house(2, 2);
        x.sex(0, 0, 1);
        x.sex(1, 0, 2);
        due("a pair shut out", 1, x.seal(0, 0, 0));
        alike(x, 1, 1, 0, 1);
        name(x, 1, 1);
        due("a pair with its name", 2, x.seal(1, 1, 1));
        due("a named body with another", 1, x.seal(1, 0, 1));
        due("a given name with another", 1, x.seal(0, 1, 1));
    }

    private static void giveOfNone() {
        sentence("-2 none such, has a name");
        NamedAgain x = house(4, 2);
        alike(x, 0, 0, 0, 1);
        for (int odd : outside(0, 1)) {
            due("found " + odd, -2, x.give(odd));
        }
        due("the first is there", -4, x.give(0));
        due("the last is there", -3, x.give(1));
        name(x, 0, 0);
        due("has a name", -2, x.give(0));
        x.sex(0, 0, 1);
        x.sex(1, 0, 2);
        due("has a name in doubt", -2, x.give(0));
        x.unname(0);
        due("has none any more", -3, x.give(0));
        due("names", 0, x.count(3));
    }

    private static void noneInThePairing() {
        sentence("-3 none in the PAIRING");
        NamedAgain x = house(1, 2);
        lawOf(x, "need 0; margin 0; seals 1;");
        x.seal(0, 0, 0);
        x.seal(1, 0, 0);
        due("no points", -3, x.give(0));
        x.tooth(0, 0, 0, 1);
        x.tooth(1, 0, 0, 1);
        x.tooth(1, 1, 0, 1);
        due("another has it", -3, x.give(1));
        due("a point is enough", 0, x.give(0));
        due("the name is given", -3, x.give(1));
    }

    private static void pointsAtLeastNeed() {
        sentence("-4 POINTS below NEED");
        for (int need = 14; need <= 16; need++) {
            NamedAgain x = house(1, 1);
            for (int mark = 0; mark < 3; mark++) {
                alike(x, 0, 0, mark, 1);
            }
            x.seal(0, 0, 0);
            lawOf(x, "need " + need + "; margin 0; seals 1;");
            due("15 points, need " + need, need <= 15 ? 0 : -4, x.give(0));
            due("names", need <= 15 ? 1 : 0, x.count(3));
        }
        sentence("NEED 20");
        for (int sound = 0; sound <= 1; sound++) {
            NamedAgain x = house(1, 1);
            for (int tooth = 0; tooth < 3; tooth++) {
                x.tooth(0, 0, tooth, 3);
                x.tooth(1, 0, tooth, 3);
            }
            x.tooth(0, 0, 6, 1);
            x.tooth(1, 0, 6, 1);
            x.tooth(0, 0, 7, sound);
            x.tooth(1, 0, 7, 1);
            due("19 points or 20", sound == 1 ? -6 : -4, x.give(0));
        }
    }

    private static void marginAtLeastMargin() {
        sentence("-5 MARGIN too small");
        for (int margin = 6; margin <= 8; margin++) {
            NamedAgain x = house(2, 1);
            lawOf(x, "mark 0 is 20; mark 1 is 13; need 0; seals 1; margin " + margin + ";");
            alike(x, 0, 0, 0, 1);
            alike(x, 0, 1, 1, 1);
            x.seal(0, 0, 0);
            due("a margin of", 7, x.margin(0));
            due("7, margin " + margin, margin <= 7 ? 0 : -5, x.give(0));
            due("names", margin <= 7 ? 1 : 0, x.count(3));
        }
        sentence("MARGIN 5");
        for (int filled = 0; filled <= 1; filled++) {
            NamedAgain x = house(2, 1);
            for (int tooth = 0; tooth < 4; tooth++) {
                x.tooth(0, 0, tooth, 3);
                x.tooth(0, 1, tooth, 3);
                x.tooth(1, 0, tooth, 3);
            }
            x.tooth(0, 0, 4, 2);
            x.tooth(1, 0, 4, 2);
            x.tooth(0, 0, 5, filled);
            x.tooth(1, 0, 5, 1);
            due("a margin of 4 or 5", 4 + filled, x.margin(0));
            due("4 or 5, where the law says nothing", filled == 1 ? -6 : -5, x.give(0));
        }
        NamedAgain y = house(2, 1);
        lawOf(y, "need 0; seals 1; margin 0;");
        alike(y, 0, 0, 0, 1);
        alike(y, 0, 1, 0, 1);
        y.seal(0, 0, 0);
        due("a margin of 0", 0, y.margin(0));
        due("0 is at least 0", 0, y.give(0));
    }

    private static void sealsOfAsManyPersons() {
        sentence("-6 SEALS lack");
        for (int seals = 1; seals <= 5; seals++) {
            NamedAgain x = house(2, 2);
            lawOf(x, "need 0; margin 0; seals " + seals + ";");
            alike(x, 0, 0, 0, 1);
            for (int person = 0; person < 6; person++) {
                x.seal(0, 1, person);
                x.seal(1, 0, person);
            }
            for (int person = 9; person > 9 - seals; person--) {
                due("too few of " + seals, -6, x.give(0));
                x.seal(0, 0, person);
                x.seal(0, 0, person);
            }
            due("as many as " + seals, 0, x.give(0));
        }
        sentence("SEALS 2");
        NamedAgain y = house(1, 1);
        for (int mark = 0; mark < 4; mark++) {
            alike(y, 0, 0, mark, 1);
        }
        due("none", -6, y.give(0));
        y.seal(0, 0, 0);
        due("one", -6, y.give(0));
        y.seal(0, 0, 1);
        due("two", 0, y.give(0));
        NamedAgain z = house(1, 1);
        lawOf(z, "need 0; margin 0; seals 1;");
        alike(z, 0, 0, 0, 1);
        z.seal(0, 0, 0);
        z.seal(0, 0, 1);
        z.seal(0, 0, 2);
        due("more than needed", 0, z.give(0));
    }

    /** Every set of what -4, -5 and -6 ask lacking at once. */
    private static void theFirstRefusal() {
        sentence("Refused, doing nothing, at the first of");
        for (int set = 0; set < 8; set++) {
            NamedAgain x = house(2, 1);
            lawOf(x, "mark 0 is 9; mark 1 is 6; need " + ((set & 1) != 0 ? 10 : 9) + "; margin "
                + ((set & 2) != 0 ? 4 : 3) + "; seals " + ((set & 4) != 0 ? 3 : 2) + ";");
            alike(x, 0, 0, 0, 1);
            alike(x, 0, 1, 1, 1);
            x.seal(0, 0, 0);
            x.seal(0, 0, 1);
            int want = set == 0 ? 0 : -4 - Integer.numberOfTrailingZeros(set);
            due("lacking " + set, want, x.give(0));
            due("its name", set == 0 ? 0 : NONE, x.named(0, 0));
            due("names", set == 0 ? 1 : 0, x.count(3));
            due("the sum", set == 0 ? 0 : 9, x.pairing(NONE));
            due("again", set == 0 ? -2 : want, x.give(0));
        }
        NamedAgain y = house(1, 1);
        lawOf(y, "need 999; margin 999; seals 5;");
        due("none in the pairing before all these", -3, y.give(0));
        due("none such before all these", -2, y.give(1));
    }

    private static void givenOnce() {
        sentence("the best joint pairing in which each name is given once");
        NamedAgain x = house(1, 2);
        lawOf(x, "need 0; margin 0; seals 1;");
        alike(x, 0, 0, 0, 1);
        x.mark(1, 1, 0, 1);
        x.seal(0, 0, 0);
        x.seal(1, 0, 0);
        due("the first", 0, x.give(0));
        due("the second", -3, x.give(1));
        x.sex(0, 0, 1);
        x.sex(1, 0, 2);
        due("the second, while the first is in doubt", -3, x.give(1));
        yes("taken back", x.unname(0));
        due("the second then", 0, x.give(1));
        x.sex(1, 0, 1);
        due("the first then", -3, x.give(0));
        due("names", 1, x.count(3));
    }

    private static void nameOfABody() {
        sentence("The name of a FOUND one's BODY (what 0; NONE)");
        NamedAgain x = house(3, 4);
        x.join(1, 3);
        alike(x, 3, 2, 0, 1);
        due("none at first", NONE, x.named(1, 0));
        due("none at first of its second", NONE, x.named(3, 0));
        lawOf(x, "need 0; margin 0; seals 1;");
        x.seal(3, 2, 7);
        due("given by the second", 2, x.give(3));
        due("the body's", 2, x.named(1, 0));
        due("the second's", 2, x.named(3, 0));
        due("another's", NONE, x.named(0, 0));
        due("another one's", NONE, x.named(2, 0));
    }

    private static void doubt() {
        sentence("DOUBT: a name GIVEN whose pair is SHUT OUT now.");
        for (int ground = 0; ground <= 5; ground++) {
            NamedAgain x = house(2, 2);
            alike(x, 0, 0, 0, 1);
            due("no name, no doubt", 0, x.named(0, 1));
            name(x, 0, 0);
            due("no doubt at first", 0, x.named(0, 1));
            due("no names in doubt", 0, x.count(5));
            shutOut(x, ground);
            due("ground", ground, x.shut(0, 0));
            due("doubt by " + ground, ground == 0 ? 0 : 1, x.named(0, 1));
            due("names in doubt by " + ground, ground == 0 ? 0 : 1, x.count(5));
            due("the name stays", 0, x.named(0, 0));
            due("names", 1, x.count(3));
            due("the other isn't in doubt", 0, x.named(1, 1));
        }
        NamedAgain y = house(1, 1);
        shutOut(y, 1);
        due("shut out without a name", 0, y.named(0, 1));
        due("no name in doubt", 0, y.count(5));
    }

    /** Ground 0 takes away every point, and no more: so much is no doubt. */
    private static void shutOut(NamedAgain x, int ground) {
        switch (ground) {
            case 0:
                x.mark(1, 0, 0, 9);
                break;
            case 1:
                x.sex(0, 0, 1);
                x.sex(1, 0, 2);
                break;
            case 2:
                x.age(0, 0, 0, 50);
                x.age(1, 0, 51, 52);
                break;
            case 3:
                x.tooth(0, 0, 0, 3);
                x.tooth(1, 0, 0, 1);
                break;
            case 4:
                x.tissue(0, 0, 0, 1, 1);
                x.tissue(1, 0, 0, 1, 2);
                break;
            default:
                x.tissue(2, 0, 0, 1, 1);
                x.tissue(1, 0, 0, 2, 2);
                break;
        }
    }

    private static void namedOfNone() {
        sentence("whether there is DOUBT (1: 1, 0). NONE: none such.");
        NamedAgain x = house(4, 2);
        alike(x, 0, 0, 0, 1);
        name(x, 0, 0);
        for (int what = 0; what <= 1; what++) {
            for (int odd : outside(0, 1)) {
                due("found " + odd + ", what " + what, NONE, x.named(odd, what));
            }
        }
        for (int odd : outside(0, 1)) {
            due("what " + odd, NONE, x.named(0, odd));
            due("what " + odd + " of one without", NONE, x.named(1, odd));
        }
        due("what 0", 0, x.named(0, 0));
        due("what 1", 0, x.named(0, 1));
        due("what 0 of the last", NONE, x.named(1, 0));
        due("what 1 of the last", 0, x.named(1, 1));
    }

    private static void takenBack() {
        sentence("A name in DOUBT is taken back: true");
        NamedAgain x = house(2, 3);
        x.join(0, 2);
        alike(x, 0, 0, 0, 1);
        alike(x, 1, 1, 1, 1);
        name(x, 0, 0);
        name(x, 1, 1);
        shutOut(x, 3);
        yes("by its second", x.unname(2));
        due("no name", NONE, x.named(0, 0));
        due("no doubt", 0, x.named(0, 1));
        due("the other's stays", 1, x.named(1, 0));
        due("names", 1, x.count(3));
        due("names in doubt", 0, x.count(5));
        due("seals stay", 2, x.count(4));
        due("it has none in the pairing", NONE, x.pairing(0));
        due("the name is free", 1, x.count(6));
        x.tooth(1, 0, 0, 0);
        due("it may be given again", 0, x.give(0));
    }

    private static void notTakenBack() {
        sentence("false, doing nothing: there is none, no DOUBT");
        NamedAgain x = house(4, 2);
        alike(x, 0, 0, 0, 1);
        for (int odd : outside(0, 1)) {
            no("found " + odd, x.unname(odd));
        }
        no("there is none", x.unname(0));
        no("there is none, of the last", x.unname(1));
        name(x, 0, 0);
        no("no doubt", x.unname(0));
        x.mark(1, 0, 0, 2);
        no("points below 0 are no doubt", x.unname(0));
        due("the name stays", 0, x.named(0, 0));
        due("names", 1, x.count(3));
        x.age(0, 0, 10, 20);
        x.age(1, 0, 20, 30);
        no("ages that meet are no doubt", x.unname(0));
        x.age(1, 0, 21, 30);
        no("another is not the one in doubt", x.unname(1));
        yes("ages that don't are", x.unname(0));
        no("there is none any more", x.unname(0));
    }

    private static void countsOfFiles() {
        sentence("0 MISSING ones, 1 FOUND ones, 2 BODIES");
        NamedAgain x = new NamedAgain();
        for (int many = 0; many <= 12; many++) {
            due("missing ones", many, x.count(0));
            due("found ones", many, x.count(1));
            due("bodies", many, x.count(2));
            x.file(0);
            x.file(1);
        }
        due("no 13th missing one", 12, x.count(0));
        due("no 13th found one", 12, x.count(1));
        x.join(11, 0);
        x.join(10, 11);
        due("bodies of joined ones", 10, x.count(2));
        due("found ones still", 12, x.count(1));
    }

    private static void countsOfNames() {
        sentence("3 names GIVEN, 4 SEALS, 5 names in DOUBT");
        NamedAgain x = house(12, 12);
        lawOf(x, "need 0; margin 0; seals 1;");
        for (int i = 0; i < 12; i++) {
            x.mark(0, i, i / 9, 1 + i % 9);
            x.mark(1, i, i / 9, 1 + i % 9);
        }
        for (int i = 0; i < 12; i++) {
            due("names", i, x.count(3));
            x.seal(i, i, i % 10);
            due("seals", i + 1, x.count(4));
            due("given", i, x.give(i));
        }
        due("all names", 12, x.count(3));
        for (int i = 0; i < 12; i++) {
            due("in doubt", i, x.count(5));
            x.sex(0, i, 1);
            x.sex(1, i, 2);
        }
        due("all in doubt", 12, x.count(5));
        for (int i = 0; i < 12; i++) {
            yes("taken back", x.unname(i));
            due("names left", 11 - i, x.count(3));
            due("doubts left", 11 - i, x.count(5));
        }
        due("the seals stay", 12, x.count(4));
    }

    private static void countOfMissingWithoutBody() {
        sentence("6 MISSING ones that have no BODY in the PAIRING");
        NamedAgain x = new NamedAgain();
        due("no files", 0, x.count(6));
        x.file(0);
        x.file(0);
        x.file(0);
        due("no found ones", 3, x.count(6));
        x.file(1);
        x.file(1);
        due("no points", 3, x.count(6));
        alike(x, 0, 0, 0, 1);
        due("a pair", 2, x.count(6));
        alike(x, 1, 1, 1, 1);
        due("two pairs", 1, x.count(6));
        name(x, 0, 0);
        due("a given one is one", 1, x.count(6));
        x.mark(1, 0, 0, 0);
        due("a given one without points too", 1, x.count(6));
        x.sex(0, 0, 1);
        x.sex(1, 0, 2);
        due("a given one in doubt too", 1, x.count(6));
        x.unname(0);
        due("one taken back not", 2, x.count(6));
        x.file(0);
        due("one more missing", 3, x.count(6));
    }

    private static void countsOfTheLaw() {
        sentence("7 bytes on the tape, 8 NEED, 9 MARGIN, 10 SEALS needed");
        NamedAgain x = new NamedAgain();
        due("bytes at first", 0, x.count(7));
        due("NEED at first", 20, x.count(8));
        due("MARGIN at first", 5, x.count(9));
        due("SEALS at first", 2, x.count(10));
        for (int i = 1; i <= 25; i++) {
            x.feed(0, 0, 0, 0, 0);
            due("bytes", 20 * i, x.count(7));
        }
        x.law(0);
        due("bytes then", 0, x.count(7));
        due("three", 3, lawOf(x, "need 0; margin 0; seals 1;"));
        due("the least NEED", 0, x.count(8));
        due("the least MARGIN", 0, x.count(9));
        due("the least SEALS", 1, x.count(10));
        due("three again", 3, lawOf(x, "need 999; margin 998; seals 5;"));
        due("the greatest NEED", 999, x.count(8));
        due("MARGIN", 998, x.count(9));
        due("the greatest SEALS", 5, x.count(10));
    }

    private static void countOfOthers() {
        sentence("NONE for others.");
        NamedAgain x = house(2, 2);
        for (int odd : outside(0, 10)) {
            due("count " + odd, NONE, x.count(odd));
        }
        due("count 12", NONE, x.count(12));
        due("count -2", NONE, x.count(-2));
        for (int what = 0; what <= 10; what++) {
            due("count " + what + " isn't NONE", 1, x.count(what) >= 0 ? 1 : 0);
        }
    }

    /** 2 files, 508 marks, the last two of them alike, and two questions. */
    private static void theLastCall() {
        sentence("An object is used for at most 512 calls after it has been made");
        NamedAgain x = house(1, 1);
        for (int i = 0; i < 508; i++) {
            yes("mark", x.mark(i % 2, 0, 0, i / 2 % 9 + 1));
        }
        due("the 511th call", 253 % 9 + 1, x.told(0, 20));
        due("the 512th call", 5, x.points(0, 0));
    }
}
