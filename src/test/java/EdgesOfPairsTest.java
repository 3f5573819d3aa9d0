import java.util.Random;

/** The edges of promises 13 to 16 and of what the terms say of SHUT OUT, POINTS, PAIRING and MARGIN. */
public final class EdgesOfPairsTest extends Edges {
    public static void main(String[] args) {
        sexesKnownAndUnlike();
        agesThatDontMeet();
        toothThatIsLess();
        sheetKnownAndUnlike();
        sheetStrangeToTheParent();
        theFirstOfFiveGrounds();
        shutOfNone();
        toothAlike();
        markAlikeOrUnlike();
        sheetGivesItsNumbers();
        parentGives();
        pointsOfOneShutOut();
        pointsBelowNought();
        pointsOfNone();
        theMostAndTheLeast();
        pairsAboveNought();
        pairsNotShutOut();
        theGreatestSum();
        oneToOne();
        ofSeveralTheFirst();
        noneBehindAll();
        leastOfTwelve();
        allWaysTried();
        fullHeaps();
        givenOnesStay();
        pairingOfNone();
        marginOfAPair();
        marginForbidsOnePair();
        marginOfNone();
        end();
    }

    private static void sexesKnownAndUnlike() {
        sentence("1 SEXES known and unlike");
        for (int body = 0; body <= 2; body++) {
            for (int missing = 0; missing <= 2; missing++) {
                NamedAgain x = house(1, 2);
                x.sex(1, 1, body);
                x.sex(0, 0, missing);
                int want = body != 0 && missing != 0 && body != missing ? 1 : 0;
                due(body + " and " + missing, want, x.shut(1, 0));
                x.join(0, 1);
                due("a body's " + body + " and " + missing, want, x.shut(0, 0));
            }
        }
    }

    private static void agesThatDontMeet() {
        sentence("2 AGES that don't meet");
        int[][] others = {{0, 29, 2}, {0, 30, 0}, {30, 30, 0}, {35, 35, 0}, {40, 40, 0}, {40, 120, 0}, {41, 120, 2},
            {0, 120, 0}, {41, 41, 2}, {29, 29, 2}, {0, 0, 2}, {120, 120, 2}, {29, 41, 0}};
        for (int side = 0; side < 2; side++) {
            NamedAgain x = house(1, 1);
            x.age(side, 0, 30, 40);
            due("at first", 0, x.shut(0, 0));
            for (int[] other : others) {
                x.age(1 - side, 0, other[0], other[1]);
                due("30 to 40, " + other[0] + " to " + other[1], other[2], x.shut(0, 0));
            }
        }
        NamedAgain y = house(1, 2);
        y.age(1, 0, 10, 50);
        y.age(1, 1, 40, 90);
        y.age(0, 0, 10, 39);
        due("alone it meets", 0, y.shut(0, 0));
        y.join(0, 1);
        due("what the body's have doesn't", 2, y.shut(0, 0));
        y.age(0, 0, 10, 40);
        due("what the body's have does", 0, y.shut(1, 0));
    }

    private static void toothThatIsLess() {
        sentence("3 a TOOTH known of both that is less in the BODY"
            + " (a gone one doesn't come back, a filled one isn't sound again)");
        for (int tooth = 0; tooth < 8; tooth++) {
            NamedAgain x = house(1, 2);
            x.join(0, 1);
            for (int body = 0; body <= 3; body++) {
                for (int missing = 0; missing <= 3; missing++) {
                    x.tooth(1, tooth % 2, tooth, body);
                    x.tooth(0, 0, tooth, missing);
                    int want = body != 0 && missing != 0 && body < missing ? 3 : 0;
                    due("tooth " + tooth + ", body " + body + ", missing " + missing, want, x.shut(0, 0));
                }
            }
        }
    }

    private static void sheetKnownAndUnlike() {
        sentence("4 a sheet of TISSUE known of both and unlike");
        for (int sheet = 0; sheet < 3; sheet++) {
            NamedAgain x = house(1, 1);
            x.tissue(1, 0, sheet, 3, 4);
            due("known of the body", 0, x.shut(0, 0));
            x.tissue(0, 0, (sheet + 1) % 3, 5, 6);
            due("another sheet known of the missing one", 0, x.shut(0, 0));
            x.tissue(0, 0, sheet, 4, 3);
            due("alike", 0, x.shut(0, 0));
            int[][] unlike = {{3, 3}, {4, 4}, {3, 5}, {2, 4}, {1, 2}};
            for (int[] pair : unlike) {
                x.tissue(0, 0, sheet, pair[0], pair[1]);
                due("unlike, " + pair[0] + " and " + pair[1], 4, x.shut(0, 0));
            }
            x.tissue(1, 0, sheet, 0, 0);
            due("torn out of the body", 0, x.shut(0, 0));
        }
    }

    private static void sheetStrangeToTheParent() {
        sentence("5 a sheet of the BODY none of whose numbers the PARENT's has");
        for (int sheet = 0; sheet < 3; sheet++) {
            NamedAgain x = house(1, 1);
            x.tissue(2, 0, sheet, 3, 6);
            due("known of the parent alone", 0, x.shut(0, 0));
            for (int a = 1; a <= 9; a++) {
                for (int b = a; b <= 9; b++) {
                    x.tissue(1, 0, sheet, b, a);
                    boolean has = a == 3 || a == 6 || b == 3 || b == 6;
                    due("sheet " + sheet + ", " + a + " and " + b, has ? 0 : 5, x.shut(0, 0));
                }
            }
            x.tissue(2, 0, sheet, 8, 8);
            x.tissue(1, 0, sheet, 8, 1);
            due("the parent's number twice", 0, x.shut(0, 0));
            x.tissue(1, 0, sheet, 7, 9);
            due("next to the parent's", 5, x.shut(0, 0));
            x.tissue(2, 0, sheet, 0, 0);
            due("the parent's torn out", 0, x.shut(0, 0));
            x.tissue(2, 0, (sheet + 1) % 3, 1, 1);
            due("another sheet of the parent's", 0, x.shut(0, 0));
        }
    }

    private static void theFirstOfFiveGrounds() {
        sentence("SHUT OUT is a BODY from a MISSING one by the first of");
        for (int set = 0; set < 32; set++) {
            NamedAgain x = house(2, 2);
            if ((set & 1) != 0) {
                x.sex(0, 1, 2);
                x.sex(1, 1, 1);
            }
            if ((set & 2) != 0) {
                x.age(0, 1, 0, 20);
                x.age(1, 1, 21, 21);
            }
            if ((set & 4) != 0) {
                x.tooth(0, 1, 7, 3);
                x.tooth(1, 1, 7, 2);
            }
            if ((set & 8) != 0) {
                x.tissue(0, 1, 2, 1, 1);
                x.tissue(1, 1, 2, 1, 2);
            }
            if ((set & 16) != 0) {
                x.tissue(2, 1, 0, 1, 1);
                x.tissue(1, 1, 0, 2, 2);
            }
            int want = set == 0 ? 0 : 1 + Integer.numberOfTrailingZeros(set);
            due("grounds " + set, want, x.shut(1, 1));
            due("the other found one", 0, x.shut(0, 1));
            due("the other missing one", 0, x.shut(1, 0));
            due("points with " + set, set == 0 ? 0 : SHUT_OUT, x.points(1, 1));
        }
    }

    private static void shutOfNone() {
        sentence("What shuts a BODY (a FOUND one's) out from a MISSING one (1 to 5); 0: nothing. NONE: none such.");
        NamedAgain x = house(2, 4);
        for (int odd : outside(0, 3)) {
            due("found " + odd, NONE, x.shut(odd, 0));
        }
        for (int odd : outside(0, 1)) {
            due("missing " + odd, NONE, x.shut(0, odd));
        }
        due("found 4, missing 2", NONE, x.shut(4, 2));
        due("the last of both", 0, x.shut(3, 1));
        due("the first of both", 0, x.shut(0, 0));
    }

    private static void toothAlike() {
        sentence("of each TOOTH known of both and alike what it gives");
        int[] gives = {0, 1, 4, 6};
        for (int tooth = 0; tooth < 8; tooth++) {
            NamedAgain x = house(1, 1);
            for (int body = 0; body <= 3; body++) {
                for (int missing = 0; missing <= 3; missing++) {
                    x.tooth(1, 0, tooth, body);
                    x.tooth(0, 0, tooth, missing);
                    boolean out = body != 0 && body < missing;
                    int want = out ? SHUT_OUT : body == missing ? gives[body] : 0;
                    due("tooth " + tooth + ", body " + body + ", missing " + missing, want, x.points(0, 0));
                }
            }
        }
    }

    private static void markAlikeOrUnlike() {
        sentence("of each MARK known of both what that MARK gives, less as much if unlike");
        for (int mark = 0; mark < 4; mark++) {
            NamedAgain x = house(1, 1);
            lawOf(x, "mark " + mark + " is 37;");
            int[] values = {0, 1, 2, 8, 9};
            for (int body : values) {
                for (int missing : values) {
                    x.mark(1, 0, mark, body);
                    x.mark(0, 0, mark, missing);
                    int want = body == 0 || missing == 0 ? 0 : body == missing ? 37 : -37;
                    due("mark " + mark + ", " + body + " and " + missing, want, x.points(0, 0));
                }
            }
            x.mark(1, 0, (mark + 1) % 4, 5);
            x.mark(0, 0, (mark + 1) % 4, 5);
            due("another mark gives what it gives", 42, x.points(0, 0));
        }
    }

    private static void sheetGivesItsNumbers() {
        sentence("of each sheet known of both what its two numbers give, added");
        for (int a = 1; a <= 9; a++) {
            NamedAgain x = house(1, 1);
            lawOf(x, "tissue " + a + " is 100;");
            for (int b = 1; b <= 9; b++) {
                x.tissue(1, 0, b % 3, a, b);
                due("known of the body alone", 0, x.points(0, 0));
                x.tissue(0, 0, b % 3, b, a);
                due(a + " and " + b, a == b ? 200 : 103, x.points(0, 0));
                x.tissue(1, 0, b % 3, 0, 0);
                due("known of the missing one alone", 0, x.points(0, 0));
                x.tissue(0, 0, b % 3, 0, 0);
            }
        }
    }

    private static void parentGives() {
        sentence("PARENT's for each sheet known of the BODY and the PARENT");
        NamedAgain x = house(1, 1);
        for (int sheet = 0; sheet < 3; sheet++) {
            x.tissue(2, 0, sheet, 1, 2);
            due("known of the parent alone", 2 * sheet, x.points(0, 0));
            x.tissue(1, 0, sheet, 2, 3);
            due("sheet " + sheet + " known of both", 2 * (sheet + 1), x.points(0, 0));
        }
        x.tissue(2, 0, 1, 0, 0);
        due("one less", 4, x.points(0, 0));
        x.tissue(0, 0, 1, 2, 3);
        due("the missing one's own", 10, x.points(0, 0));
        x.tissue(0, 0, 0, 2, 3);
        due("the missing one's own beside the parent's", 16, x.points(0, 0));
    }

    private static void pointsOfOneShutOut() {
        sentence("-100000: SHUT OUT");
        NamedAgain x = house(1, 1);
        alike(x, 0, 0, 0, 1);
        due("not shut out", 5, x.points(0, 0));
        x.age(0, 0, 0, 10);
        x.age(1, 0, 11, 12);
        due("shut out", -100000, x.points(0, 0));
        x.age(1, 0, 10, 12);
        due("not any more", 5, x.points(0, 0));
    }

    private static void pointsBelowNought() {
        sentence("(POINTS may be below 0, NONE too.)");
        NamedAgain x = house(1, 1);
        lawOf(x, "mark 0 is 1; mark 1 is 1; mark 2 is 2;");
        x.mark(0, 0, 0, 1);
        x.mark(1, 0, 0, 2);
        due("one less than nothing", -1, x.points(0, 0));
        alike(x, 0, 0, 1, 3);
        due("nothing", 0, x.points(0, 0));
        x.mark(1, 0, 1, 4);
        due("two less", -2, x.points(0, 0));
        alike(x, 0, 0, 2, 4);
        due("nothing again", 0, x.points(0, 0));
        x.tooth(0, 0, 0, 1);
        x.tooth(1, 0, 0, 1);
        due("one more", 1, x.points(0, 0));
    }

    private static void pointsOfNone() {
        sentence("POINTS. -100000: SHUT OUT; NONE: none such.");
        NamedAgain x = house(2, 4);
        for (int odd : outside(0, 3)) {
            due("found " + odd, NONE, x.points(odd, 0));
        }
        for (int odd : outside(0, 1)) {
            due("missing " + odd, NONE, x.points(0, odd));
        }
        due("the last of both", 0, x.points(3, 1));
        due("the first of both", 0, x.points(0, 0));
    }

    private static void theMostAndTheLeast() {
        sentence("POINTS of a pair not SHUT OUT");
        NamedAgain x = house(2, 2);
        lawOf(x, "tooth 3 is 999; mark 0 is 999; mark 1 is 999; mark 2 is 999; mark 3 is 999; tissue 9 is 999; parent 999;");
        for (int i = 0; i < 2; i++) {
            for (int mark = 0; mark < 4; mark++) {
                x.mark(0, i, mark, 1);
                x.mark(1, i, mark, 2);
            }
        }
        due("the least", -4 * 999, x.points(0, 0));
        due("no pair of it", NONE, x.pairing(0));
        for (int i = 0; i < 2; i++) {
            for (int mark = 0; mark < 4; mark++) {
                x.mark(1, i, mark, 1);
            }
            for (int tooth = 0; tooth < 8; tooth++) {
                x.tooth(0, i, tooth, 3);
                x.tooth(1, i, tooth, 3);
            }
            for (int sheet = 0; sheet < 3; sheet++) {
                x.tissue(0, i, sheet, 9, 9);
                x.tissue(1, i, sheet, 9, 9);
                x.tissue(2, i, sheet, 9, 9);
            }
        }
        due("the most", 21 * 999, x.points(1, 0));
        due("the sum of the most", 2 * 21 * 999, x.pairing(NONE));
        due("the first's", 0, x.pairing(0));
        due("the second's", 1, x.pairing(1));
        x.mark(1, 1, 3, 2);
        due("one mark less", 2 * 21 * 999 - 2 * 999, x.pairing(NONE));
        due("the first's still", 0, x.pairing(0));
        due("its margin", 0, x.margin(0));
    }

    private static void pairsAboveNought() {
        sentence("of pairs with POINTS above 0");
        NamedAgain x = house(1, 1);
        lawOf(x, "mark 0 is 1; mark 1 is 1; mark 2 is 1;");
        due("nothing known", NONE, x.pairing(0));
        alike(x, 0, 0, 0, 1);
        x.mark(0, 0, 1, 1);
        x.mark(1, 0, 1, 2);
        due("points", 0, x.points(0, 0));
        due("0 is no pair", NONE, x.pairing(0));
        due("without a pair the sum is 0", 0, x.pairing(NONE));
        due("a missing one without", 1, x.count(6));
        alike(x, 0, 0, 2, 1);
        due("1 is one", 0, x.pairing(0));
        due("the sum", 1, x.pairing(NONE));
        due("no missing one without", 0, x.count(6));
        x.mark(1, 0, 0, 9);
        due("points below", -1, x.points(0, 0));
        due("-1 is no pair", NONE, x.pairing(0));
        due("the sum isn't below 0", 0, x.pairing(NONE));
    }

    private static void pairsNotShutOut() {
        sentence("one to one, of pairs with POINTS above 0 not SHUT OUT");
        NamedAgain x = house(2, 1);
        alike(x, 0, 0, 0, 1);
        alike(x, 0, 0, 1, 1);
        alike(x, 0, 1, 2, 1);
        due("the better one", 0, x.pairing(0));
        x.tooth(0, 0, 0, 2);
        x.tooth(1, 0, 0, 1);
        due("the better one is shut out", 1, x.pairing(0));
        due("the sum", 5, x.pairing(NONE));
        x.sex(1, 0, 1);
        x.sex(0, 1, 2);
        due("both are", NONE, x.pairing(0));
        due("no sum", 0, x.pairing(NONE));
    }

    /** The greatest pair (7) is left out, as the two beside it give 8 together, or 7 in the second house. */
    private static void theGreatestSum() {
        sentence("that of the greatest sum");
        for (int second = 3; second <= 4; second++) {
            NamedAgain x = house(2, 2);
            lawOf(x, "mark 0 is 7; mark 1 is 4; mark 2 is " + second + ";");
            alike(x, 1, 1, 0, 1);
            alike(x, 1, 0, 1, 1);
            alike(x, 0, 1, 2, 1);
            due("the sum", Math.max(7, 4 + second), x.pairing(NONE));
            due("the least body has one in either case", 1, x.pairing(0));
            due("the next", 0, x.pairing(1));
            due("margin", second - 3, x.margin(0));
        }
        NamedAgain y = house(2, 2);
        lawOf(y, "mark 0 is 8; mark 1 is 4; mark 2 is 3;");
        alike(y, 1, 1, 0, 1);
        alike(y, 1, 0, 1, 1);
        alike(y, 0, 1, 2, 1);
        due("one pair is more than two", 8, y.pairing(NONE));
        due("the least body has none then", NONE, y.pairing(0));
        due("the next has the best", 1, y.pairing(1));
    }

    private static void oneToOne() {
        sentence("of all ways to give BODIES to MISSING ones, one to one");
        NamedAgain x = house(1, 3);
        alike(x, 0, 0, 0, 1);
        x.mark(1, 1, 0, 1);
        x.mark(1, 2, 0, 1);
        due("one name for three", 5, x.pairing(NONE));
        due("the first body's", 0, x.pairing(0));
        due("not the second's", NONE, x.pairing(1));
        due("not the third's", NONE, x.pairing(2));
        x.join(0, 2);
        due("of a body's second", 0, x.pairing(2));
        NamedAgain y = house(3, 1);
        for (int missing = 0; missing < 3; missing++) {
            alike(y, 0, missing, 0, 1);
        }
        due("one body for three", 5, y.pairing(NONE));
        due("the least name", 0, y.pairing(0));
        due("two without", 2, y.count(6));
    }

    private static void ofSeveralTheFirst() {
        sentence("of several the first: the least BODY has the least MISSING one (none behind all), then the next");
        NamedAgain x = house(3, 3);
        lawOf(x, "mark 0 is 2; mark 1 is 1; mark 2 is 1; mark 3 is 3;");
        for (int i = 0; i < 3; i++) {
            alike(x, i, i, 0, 1);
        }
        for (int i = 0; i < 3; i++) {
            due("all alike, " + i, i, x.pairing(i));
        }
        x.mark(1, 2, 1, 1);
        x.mark(0, 0, 1, 1);
        due("the last is better with 0: 0 has", 1, x.pairing(0));
        due("1 has", 2, x.pairing(1));
        due("2 has", 0, x.pairing(2));
        due("the sum", 7, x.pairing(NONE));
        x.mark(1, 0, 2, 1);
        x.mark(0, 0, 2, 1);
        due("as good with 0 itself: 0 has", 0, x.pairing(0));
        due("1 has then", 1, x.pairing(1));
        due("2 has then", 2, x.pairing(2));
        due("the same sum", 7, x.pairing(NONE));
    }

    /** Of body 1 with 0, or body 0 with 1 (or 0), one alone gives as much: the least body has one. */
    private static void noneBehindAll() {
        sentence("(none behind all)");
        NamedAgain x = house(1, 2);
        alike(x, 0, 0, 0, 1);
        x.mark(1, 1, 0, 1);
        due("the least body has it", 0, x.pairing(0));
        due("the next has none", NONE, x.pairing(1));
        NamedAgain y = house(2, 3);
        lawOf(y, "mark 0 is 4; mark 1 is 4; mark 2 is 8; mark 3 is 8;");
        alike(y, 0, 1, 0, 1);
        alike(y, 1, 0, 1, 1);
        alike(y, 2, 1, 2, 1);
        due("8 and 4: body 0 has none", NONE, y.pairing(0));
        y.mark(1, 2, 2, 0);
        y.mark(1, 2, 0, 1);
        due("4 and 4, with 0 or with 2: 0 has it", 1, y.pairing(0));
        due("1 has", 0, y.pairing(1));
        due("2 has none", NONE, y.pairing(2));
    }

    private static void leastOfTwelve() {
        sentence("the least BODY has the least MISSING one");
        for (int body = 0; body < 12; body++) {
            NamedAgain x = house(12, 12);
            x.mark(1, body, 0, 1);
            for (int missing = body; missing < 12; missing++) {
                x.mark(0, missing, 0, 1);
            }
            due("body " + body + " alone", body, x.pairing(body));
            due("its margin", body == 11 ? 5 : 0, x.margin(body));
            x.mark(1, 11, 0, 1);
            due("body " + body + " before the last", body, x.pairing(body));
            due("the last behind body " + body, Math.min(11, body + 1), body == 11 ? 11 : x.pairing(11));
        }
    }

    /** Small houses in which all ways can be tried one after another, the first of them first. */
    private static void allWaysTried() {
        sentence("that of the greatest sum; of several the first");
        Random random = new Random(5);
        for (int run = 0; run < 600; run++) {
            int missing = 1 + random.nextInt(5);
            int found = 1 + random.nextInt(5);
            NamedAgain x = house(missing, found);
            lawOf(x, "mark 0 is " + random.nextInt(4) + ";mark 1 is " + random.nextInt(4) + ";mark 2 is 1;");
            int[][] points = new int[found][missing];
            int values = 2 + random.nextInt(3);
            for (int mark = 0; mark < 3; mark++) {
                for (int i = 0; i < 5; i++) {
                    x.mark(0, i, mark, random.nextInt(values));
                    x.mark(1, i, mark, random.nextInt(values));
                }
            }
            for (int body = 0; body < found; body++) {
                for (int other = 0; other < missing; other++) {
                    points[body][other] = x.points(body, other);
                }
            }
            Ways ways = new Ways(points);
            int sum = ways.greatest;
            due("run " + run + ", the sum", sum, x.pairing(NONE));
            for (int body = 0; body < found; body++) {
                int has = ways.first[body];
                due("run " + run + ", body " + body, has, x.pairing(body));
                due("run " + run + ", margin of " + body, has == NONE ? NONE : sum - ways.without(body), x.margin(body));
            }
        }
    }

    /** Tries all ways: each body the names that are free from the least on, then none. */
    private static final class Ways {
        final int[][] points;
        final int[] first;
        private final int[] now;
        int greatest = -1;

        Ways(int[][] points) {
            this.points = points;
            first = new int[points.length];
            now = new int[points.length];
            go(0, 0, 0);
        }

        private void go(int body, int taken, int sum) {
            if (body == points.length) {
                if (sum > greatest) {
                    greatest = sum;
                    System.arraycopy(now, 0, first, 0, now.length);
                }
                return;
            }
            for (int other = 0; other < points[body].length; other++) {
                if (points[body][other] > 0 && (taken >> other & 1) == 0) {
                    now[body] = other;
                    go(body + 1, taken | 1 << other, sum + points[body][other]);
                }
            }
            now[body] = NONE;
            go(body + 1, taken, sum);
        }

        /** The greatest sum where a body's pair is forbidden. */
        int without(int body) {
            int[][] others = new int[points.length][];
            for (int i = 0; i < points.length; i++) {
                others[i] = points[i].clone();
            }
            others[body][first[body]] = 0;
            return new Ways(others).greatest;
        }
    }

    private static void fullHeaps() {
        sentence("PAIRING: of all ways to give BODIES to MISSING ones");
        NamedAgain x = house(12, 12);
        for (int i = 0; i < 12; i++) {
            x.mark(0, i, i / 9, 1 + i % 9);
            x.mark(1, 11 - i, i / 9, 1 + i % 9);
        }
        due("each has its own", 60, x.pairing(NONE));
        for (int i = 0; i < 12; i++) {
            due("body " + i, 11 - i, x.pairing(i));
            due("margin of " + i, 5, x.margin(i));
        }
        due("no missing one without", 0, x.count(6));
        x.sex(0, 0, 1);
        x.sex(1, 11, 2);
        due("eleven", 55, x.pairing(NONE));
        due("the last body", NONE, x.pairing(11));
        due("one without", 1, x.count(6));
    }

    private static void givenOnesStay() {
        sentence("Names that were GIVEN stay (their pair is taken, its POINTS aren't asked).");
        NamedAgain x = house(2, 3);
        alike(x, 0, 0, 0, 1);
        x.mark(1, 1, 0, 1);
        name(x, 0, 0);
        due("its points aren't of the sum", 0, x.pairing(NONE));
        due("its pair is", 0, x.pairing(0));
        due("nobody else's", NONE, x.pairing(1));
        x.mark(1, 0, 0, 0);
        due("without points", 0, x.points(0, 0));
        due("it stays without points", 0, x.pairing(0));
        x.mark(1, 0, 0, 2);
        due("points below 0", -5, x.points(0, 0));
        due("it stays below 0", 0, x.pairing(0));
        due("the sum isn't touched", 0, x.pairing(NONE));
        alike(x, 0, 1, 1, 3);
        alike(x, 0, 1, 2, 3);
        due("it stays where another would be better", 0, x.pairing(0));
        due("the other isn't given to it", 0, x.pairing(NONE));
        x.mark(1, 2, 1, 3);
        due("the other is another's", 1, x.pairing(2));
        due("the other's points are of the sum", 5, x.pairing(NONE));
        x.age(0, 0, 0, 1);
        x.age(1, 0, 2, 3);
        due("shut out", 2, x.shut(0, 0));
        due("it stays in doubt", 0, x.pairing(0));
        due("it isn't another's in doubt", NONE, x.pairing(1));
        due("it isn't without a body", 0, x.count(6));
        yes("taken back", x.unname(0));
        due("another's then", 0, x.pairing(1));
        due("shut out of it then", 1, x.pairing(0));
        due("both are of the sum", 5 + 10, x.pairing(NONE));
    }

    private static void pairingOfNone() {
        sentence("PAIRING: the sum (what NONE), the MISSING one of the BODY of a FOUND one"
            + " (what its number; NONE: none). -100000: none such.");
        NamedAgain x = house(4, 2);
        alike(x, 1, 3, 0, 1);
        due("the sum", 5, x.pairing(-1));
        for (int odd : new int[] {-2, 2, 3, -1000, 1000, LEAST, GREATEST}) {
            due("what " + odd, SHUT_OUT, x.pairing(odd));
        }
        due("the first has none", NONE, x.pairing(0));
        due("the last has", 3, x.pairing(1));
        due("no files at all: the sum", 0, new NamedAgain().pairing(-1));
        due("no files at all: the first", SHUT_OUT, new NamedAgain().pairing(0));
        NamedAgain full = house(0, 12);
        due("the 12th has none", NONE, full.pairing(11));
        due("the 13th isn't there", SHUT_OUT, full.pairing(12));
    }

    private static void marginOfAPair() {
        sentence("MARGIN of a pair of it: the sum less the greatest one without that pair");
        NamedAgain x = house(2, 2);
        lawOf(x, "mark 0 is 9; mark 1 is 4; mark 2 is 3;");
        alike(x, 0, 0, 0, 1);
        due("the only pair: all", 9, x.margin(0));
        alike(x, 0, 1, 1, 1);
        due("another name for it: less", 5, x.margin(0));
        x.mark(0, 1, 0, 1);
        due("it has the better one", 1, x.pairing(0));
        due("9 and 4, 9 without", 4, x.margin(0));
        x.mark(0, 0, 1, 1);
        due("both alike: nothing", 0, x.margin(0));
        due("the first of both", 0, x.pairing(0));
        alike(x, 1, 1, 2, 1);
        due("the other's body", 1, x.pairing(1));
        due("13 and 3, 13 without", 3, x.margin(0));
        due("the other's margin", 3, x.margin(1));
    }

    /** Body 0 may have another name and name 0 another body: only both together are forbidden. */
    private static void marginForbidsOnePair() {
        sentence("(it's forbidden)");
        NamedAgain x = house(2, 2);
        lawOf(x, "mark 0 is 10; mark 1 is 6; mark 2 is 5;");
        alike(x, 0, 0, 0, 1);
        alike(x, 0, 1, 1, 1);
        alike(x, 1, 0, 2, 1);
        due("the sum", 11, x.pairing(NONE));
        due("0 has", 1, x.pairing(0));
        due("1 has", 0, x.pairing(1));
        due("without 0 and 1: 10", 1, x.margin(0));
        due("without 1 and 0: 10", 1, x.margin(1));
        due("asking changed nothing: the sum", 11, x.pairing(NONE));
        due("asking changed nothing: 0", 1, x.pairing(0));
        due("asking changed nothing: 1", 0, x.pairing(1));
        x.join(0, 1);
        due("one body: the sum", 15, x.pairing(NONE));
        due("by its second", 9, x.margin(1));
    }

    private static void marginOfNone() {
        sentence("MARGIN of the pair of a FOUND one's BODY. NONE: it has none, it's GIVEN.");
        NamedAgain x = house(5, 2);
        alike(x, 0, 0, 0, 1);
        for (int odd : outside(0, 1)) {
            due("found " + odd, NONE, x.margin(odd));
        }
        due("it has none", NONE, x.margin(1));
        due("it has one", 5, x.margin(0));
        name(x, 0, 0);
        due("it's given", NONE, x.margin(0));
        x.sex(0, 0, 1);
        x.sex(1, 0, 2);
        due("it's given and in doubt", NONE, x.margin(0));
        x.unname(0);
        due("it's shut out", NONE, x.margin(0));
        x.sex(1, 0, 1);
        due("it has one again", 5, x.margin(0));
    }
}
