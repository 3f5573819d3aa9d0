/**
 * A house in which the lost are named again: files of the missing and of what was found, bodies joined
 * of found ones, the best joint pairing of bodies with missing ones, and names given by seals.
 *
 * No call makes an object: every row is made once, in the constructor, and used again.
 */
public final class NamedAgain {
    public static final int NONE = -1;

    private static final int MOST_FILES = 12;
    private static final int MOST_SEALS = 60;
    private static final int MOST_BYTES = 500;
    private static final int MOST_STATEMENTS = 20;
    private static final int PERSONS = 10;

    private static final int TEETH = 8;
    private static final int MARKS = 4;
    private static final int SHEETS = 3;
    private static final int OLDEST = 120;

    private static final int SIDE_MISSING = 0;
    private static final int SIDE_FOUND = 1;
    private static final int SIDE_PARENT = 2;

    /** What points() answers of a pair that is shut out, and pairing() of one that isn't there. */
    private static final int NO_POINTS = -100000;

    /** The places of a law's single numbers in its row of terms. */
    private static final int PARENT = 0;
    private static final int NEED = 1;
    private static final int MARGIN = 2;
    private static final int SEALS = 3;

    private final Heap lost;
    private final Bodies bodies;
    private final Seals seals;
    private final Pairing pairs;
    private final Tape tape;
    private final Reader reader;
    private final Card seen;
    private final Card seenToo;
    private Law inForce;
    private Law draft;

    public NamedAgain() {
        lost = new Heap();
        bodies = new Bodies();
        seals = new Seals();
        pairs = new Pairing();
        tape = new Tape();
        reader = new Reader();
        seen = new Card();
        seenToo = new Card();
        inForce = new Law();
        draft = new Law();
    }

    public int file(int side) {
        if (side == SIDE_MISSING) {
            return lost.open();
        }
        if (side == SIDE_FOUND) {
            return bodies.files.open();
        }
        return NONE;
    }

    public boolean sex(int side, int file, int sex) {
        Card card = cardOf(side, file);
        if (card == null || !within(sex, 0, 2)) {
            return false;
        }
        card.sex = sex;
        return true;
    }

    public boolean age(int side, int file, int from, int to) {
        Card card = cardOf(side, file);
        if (card == null || from < 0 || from > to || to > OLDEST) {
            return false;
        }
        card.from = from;
        card.to = to;
        return true;
    }

    public boolean tooth(int side, int file, int tooth, int state) {
        Card card = cardOf(side, file);
        if (card == null || !within(tooth, 0, TEETH - 1) || !within(state, 0, 3)) {
            return false;
        }
        card.teeth[tooth] = state;
        return true;
    }

    public boolean mark(int side, int file, int mark, int value) {
        Card card = cardOf(side, file);
        if (card == null || !within(mark, 0, MARKS - 1) || !within(value, 0, 9)) {
            return false;
        }
        card.marks[mark] = value;
        return true;
    }

    public boolean tissue(int side, int file, int sheet, int a, int b) {
        boolean ofParent = side == SIDE_PARENT;
        Card card = cardOf(ofParent ? SIDE_MISSING : side, file);
        if (card == null || !within(sheet, 0, SHEETS - 1)) {
            return false;
        }
        if (a != 0 && (!within(a, 1, 9) || !within(b, 1, 9))) {
            return false;
        }
        int[] sheets = ofParent ? card.parent : card.sheets;
        sheets[sheet] = a == 0 ? 0 : 10 * Math.min(a, b) + Math.max(a, b);
        return true;
    }

    public boolean pieces(int file, int pieces) {
        Card card = bodies.files.find(file);
        if (card == null || !within(pieces, 0, 255)) {
            return false;
        }
        if ((bodies.piecesBeside(file) & pieces) != 0) {
            return false;
        }
        card.pieces = pieces;
        return true;
    }

    public int unfit(int a, int b) {
        int one = bodies.leaderOf(a);
        int two = bodies.leaderOf(b);
        if (one == NONE || two == NONE || one == two) {
            return 1;
        }
        bodies.gather(one, seen);
        bodies.gather(two, seenToo);
        if ((seen.pieces & seenToo.pieces) != 0) {
            return 2;
        }
        if (seen.sexUnlike(seenToo)) {
            return 3;
        }
        if (!seen.ageMeets(seenToo)) {
            return 4;
        }
        if (seen.sheetUnlike(seenToo)) {
            return 5;
        }
        return bodies.names[one] != NONE || bodies.names[two] != NONE ? 6 : 0;
    }

    public boolean join(int a, int b) {
        if (unfit(a, b) != 0) {
            return false;
        }
        bodies.unite(bodies.leaderOf(a), bodies.leaderOf(b));
        return true;
    }

    public int body(int file) {
        return bodies.leaderOf(file);
    }

    public int told(int file, int what) {
        int body = bodies.leaderOf(file);
        if (body == NONE) {
            return NONE;
        }
        if (what == 4) {
            return bodies.sizeOf(body);
        }
        bodies.gather(body, seen);
        return seen.answer(what);
    }

    public int shut(int found, int missing) {
        int body = bodies.leaderOf(found);
        Card file = lost.find(missing);
        if (body == NONE || file == null) {
            return NONE;
        }
        return barOf(body, file);
    }

    public int points(int found, int missing) {
        int body = bodies.leaderOf(found);
        Card file = lost.find(missing);
        if (body == NONE || file == null) {
            return NONE;
        }
        bodies.gather(body, seen);
        return inForce.weigh(seen, file);
    }

    public int pairing(int what) {
        int body = bodies.leaderOf(what);
        if (what != NONE && body == NONE) {
            return NO_POINTS;
        }
        pairUp();
        return body == NONE ? pairs.sum : pairs.partner[body];
    }

    public int margin(int found) {
        int body = bodies.leaderOf(found);
        if (body == NONE || bodies.names[body] != NONE) {
            return NONE;
        }
        pairUp();
        return pairs.partner[body] == NONE ? NONE : pairs.lossWithout(body);
    }

    public int seal(int found, int missing, int person) {
        int body = bodies.leaderOf(found);
        if (body == NONE || lost.find(missing) == null || !within(person, 0, PERSONS - 1)) {
            return NONE;
        }
        if (seals.bears(body, missing, person)) {
            return -2;
        }
        if (!seals.put(body, missing, person)) {
            return -3;
        }
        return seals.personsOn(body, missing);
    }

    public int give(int found) {
        int body = bodies.leaderOf(found);
        if (body == NONE || bodies.names[body] != NONE) {
            return -2;
        }
        pairUp();
        int name = pairs.partner[body];
        if (name == NONE) {
            return -3;
        }
        if (pairs.points[body][name] < inForce.terms[NEED]) {
            return -4;
        }
        if (pairs.lossWithout(body) < inForce.terms[MARGIN]) {
            return -5;
        }
        if (seals.personsOn(body, name) < inForce.terms[SEALS]) {
            return -6;
        }
        bodies.names[body] = name;
        return name;
    }

    public int named(int found, int what) {
        int body = bodies.leaderOf(found);
        if (body == NONE || !within(what, 0, 1)) {
            return NONE;
        }
        if (what == 0) {
            return bodies.names[body];
        }
        return inDoubt(body) ? 1 : 0;
    }

    public boolean unname(int found) {
        int body = bodies.leaderOf(found);
        if (body == NONE || !inDoubt(body)) {
            return false;
        }
        bodies.names[body] = NONE;
        return true;
    }

    public int feed(int a, int b, int c, int d, int e) {
        if (!tape.hasRoomFor(20)) {
            return NONE;
        }
        tape.put(a);
        tape.put(b);
        tape.put(c);
        tape.put(d);
        tape.put(e);
        return tape.length;
    }

    public int law(int n) {
        if (n < 0 || n > tape.length) {
            return -2;
        }
        int statements = reader.read(tape.bytes, n, draft);
        tape.length = 0;
        if (statements != NONE) {
            Law former = inForce;
            inForce = draft;
            draft = former;
        }
        return statements;
    }

    public int fault() {
        return reader.faultPlace;
    }

    public int count(int what) {
        switch (what) {
            case 0: return lost.size;
            case 1: return bodies.files.size;
            case 2: return bodies.howMany();
            case 3: return bodies.howManyNamed();
            case 4: return seals.size;
            case 5: return howManyInDoubt();
            case 6: return howManyUnpaired();
            case 7: return tape.length;
            case 8: return inForce.terms[NEED];
            case 9: return inForce.terms[MARGIN];
            case 10: return inForce.terms[SEALS];
            default: return NONE;
        }
    }

    private static boolean within(int value, int least, int greatest) {
        return value >= least && value <= greatest;
    }

    /** The file of a side, null if there is none such. */
    private Card cardOf(int side, int file) {
        if (side == SIDE_MISSING) {
            return lost.find(file);
        }
        if (side == SIDE_FOUND) {
            return bodies.files.find(file);
        }
        return null;
    }

    /** What shuts a body out from a missing one. */
    private int barOf(int body, Card file) {
        bodies.gather(body, seen);
        return seen.barFrom(file);
    }

    private boolean inDoubt(int body) {
        Card file = lost.find(bodies.names[body]);
        return file != null && barOf(body, file) != 0;
    }

    private int howManyInDoubt() {
        int doubts = 0;
        for (int body = 0; body < bodies.files.size; body++) {
            if (bodies.leads(body) && inDoubt(body)) {
                doubts++;
            }
        }
        return doubts;
    }

    private int howManyUnpaired() {
        pairUp();
        int unpaired = lost.size;
        for (int body = 0; body < MOST_FILES; body++) {
            if (pairs.partner[body] != NONE) {
                unpaired--;
            }
        }
        return unpaired;
    }

    /** Works the pairing out anew: it is cheap enough not to be kept from one call to the next. */
    private void pairUp() {
        for (int body = 0; body < MOST_FILES; body++) {
            boolean open = bodies.leads(body) && bodies.names[body] == NONE;
            if (open) {
                bodies.gather(body, seen);
            }
            for (int other = 0; other < MOST_FILES; other++) {
                Card file = lost.find(other);
                boolean pairable = open && file != null && !bodies.hasGiven(other);
                pairs.points[body][other] = pairable ? Math.max(0, inForce.weigh(seen, file)) : 0;
            }
        }
        pairs.settle();
        for (int body = 0; body < MOST_FILES; body++) {
            if (bodies.names[body] != NONE) {
                pairs.partner[body] = bodies.names[body];
            }
        }
    }

    /** A file, or what a body knows. Of all but the age, 0 says that it is not known. */
    private static final class Card {
        int sex;
        int from;
        int to;
        int pieces;
        final int[] teeth;
        final int[] marks;
        /** Of each sheet, 10 times the lesser number and the greater: so two sheets alike are two numbers alike. */
        final int[] sheets;
        final int[] parent;

        Card() {
            to = OLDEST;
            teeth = new int[TEETH];
            marks = new int[MARKS];
            sheets = new int[SHEETS];
            parent = new int[SHEETS];
        }

        /** Makes it know nothing. A body's card never has a parent's sheets, so they needn't go. */
        void forget() {
            sex = 0;
            from = 0;
            to = OLDEST;
            pieces = 0;
            forgetRow(teeth);
            forgetRow(marks);
            forgetRow(sheets);
        }

        /** Takes from a file what isn't known yet, so that the first that knows a thing tells it. */
        void learn(Card file) {
            if (sex == 0) {
                sex = file.sex;
            }
            from = Math.max(from, file.from);
            to = Math.min(to, file.to);
            pieces |= file.pieces;
            learnRow(teeth, file.teeth);
            learnRow(marks, file.marks);
            learnRow(sheets, file.sheets);
        }

        int answer(int what) {
            if (within(what, 10, 9 + TEETH)) {
                return teeth[what - 10];
            }
            if (within(what, 20, 19 + MARKS)) {
                return marks[what - 20];
            }
            if (within(what, 30, 29 + SHEETS)) {
                return sheets[what - 30];
            }
            switch (what) {
                case 0: return sex;
                case 1: return from;
                case 2: return to;
                case 3: return pieces;
                default: return NONE;
            }
        }

        /** What shuts this body out from a missing one. */
        int barFrom(Card file) {
            if (sexUnlike(file)) {
                return 1;
            }
            if (!ageMeets(file)) {
                return 2;
            }
            if (toothCameBack(file)) {
                return 3;
            }
            if (sheetUnlike(file)) {
                return 4;
            }
            return strangeToParent(file) ? 5 : 0;
        }

        boolean sexUnlike(Card other) {
            return sex != 0 && other.sex != 0 && sex != other.sex;
        }

        /** Whether there is an age in both. A body mended after it was joined may have none left: it meets nobody. */
        boolean ageMeets(Card other) {
            return Math.max(from, other.from) <= Math.min(to, other.to);
        }

        boolean sheetUnlike(Card other) {
            for (int sheet = 0; sheet < SHEETS; sheet++) {
                int mine = sheets[sheet];
                int theirs = other.sheets[sheet];
                if (mine != 0 && theirs != 0 && mine != theirs) {
                    return true;
                }
            }
            return false;
        }

        private boolean toothCameBack(Card file) {
            for (int tooth = 0; tooth < TEETH; tooth++) {
                if (teeth[tooth] != 0 && teeth[tooth] < file.teeth[tooth]) {
                    return true;
                }
            }
            return false;
        }

        private boolean strangeToParent(Card file) {
            for (int sheet = 0; sheet < SHEETS; sheet++) {
                int mine = sheets[sheet];
                int theirs = file.parent[sheet];
                if (mine != 0 && theirs != 0 && !has(theirs, mine / 10) && !has(theirs, mine % 10)) {
                    return true;
                }
            }
            return false;
        }

        private static boolean has(int sheet, int number) {
            return sheet / 10 == number || sheet % 10 == number;
        }

        private static void forgetRow(int[] row) {
            for (int i = 0; i < row.length; i++) {
                row[i] = 0;
            }
        }

        private static void learnRow(int[] row, int[] from) {
            for (int i = 0; i < row.length && i < from.length; i++) {
                if (row[i] == 0) {
                    row[i] = from[i];
                }
            }
        }
    }

    /** The files of one side, numbered as they come. */
    private static final class Heap {
        final Card[] cards;
        int size;

        Heap() {
            cards = new Card[MOST_FILES];
            for (int i = 0; i < MOST_FILES; i++) {
                cards[i] = new Card();
            }
        }

        int open() {
            if (size >= MOST_FILES) {
                return NONE;
            }
            size++;
            return size - 1;
        }

        /** The file of a number, null if there is none such. */
        Card find(int number) {
            return number >= 0 && number < size ? cards[number] : null;
        }
    }

    /** The found ones, how they are joined to bodies, and the bodies' names. */
    private static final class Bodies {
        final Heap files;
        /** Of each found one the least of its body, which is the body's number. */
        final int[] leaders;
        /** Of each body the missing one whose name was given to it. */
        final int[] names;

        Bodies() {
            files = new Heap();
            leaders = new int[MOST_FILES];
            names = new int[MOST_FILES];
            for (int i = 0; i < MOST_FILES; i++) {
                leaders[i] = i;
                names[i] = NONE;
            }
        }

        int leaderOf(int file) {
            return file >= 0 && file < files.size ? leaders[file] : NONE;
        }

        boolean leads(int file) {
            return file >= 0 && leaderOf(file) == file;
        }

        /** Neither has a name, or they couldn't be joined: so no name is to be carried over. */
        void unite(int one, int two) {
            int lesser = Math.min(one, two);
            int greater = Math.max(one, two);
            for (int file = 0; file < files.size; file++) {
                if (leaders[file] == greater) {
                    leaders[file] = lesser;
                }
            }
        }

        /** Writes on a card what a body knows. */
        void gather(int body, Card into) {
            into.forget();
            for (int file = 0; file < files.size; file++) {
                if (leaders[file] == body) {
                    into.learn(files.cards[file]);
                }
            }
        }

        /** The pieces of a found one's body without its own. */
        int piecesBeside(int file) {
            int pieces = 0;
            int body = leaderOf(file);
            for (int other = 0; other < files.size; other++) {
                if (other != file && leaders[other] == body) {
                    pieces |= files.cards[other].pieces;
                }
            }
            return pieces;
        }

        int sizeOf(int body) {
            int size = 0;
            for (int file = 0; file < files.size; file++) {
                if (leaders[file] == body) {
                    size++;
                }
            }
            return size;
        }

        int howMany() {
            int many = 0;
            for (int file = 0; file < files.size; file++) {
                if (leads(file)) {
                    many++;
                }
            }
            return many;
        }

        int howManyNamed() {
            int many = 0;
            for (int body = 0; body < MOST_FILES; body++) {
                if (names[body] != NONE) {
                    many++;
                }
            }
            return many;
        }

        boolean hasGiven(int name) {
            for (int body = 0; body < MOST_FILES; body++) {
                if (names[body] == name) {
                    return true;
                }
            }
            return false;
        }
    }

    /**
     * The seals, in the order in which they came. A body that is joined to a lesser one is never a body
     * again, so nobody asks for its seals any more: they only fill their places.
     */
    private static final class Seals {
        final int[] pairs;
        final int[] persons;
        int size;

        Seals() {
            pairs = new int[MOST_SEALS];
            persons = new int[MOST_SEALS];
        }

        boolean bears(int body, int missing, int person) {
            for (int i = 0; i < size; i++) {
                if (pairs[i] == pairOf(body, missing) && persons[i] == person) {
                    return true;
                }
            }
            return false;
        }

        /** A person seals a pair once, so each seal on it is of another person. */
        int personsOn(int body, int missing) {
            int many = 0;
            for (int i = 0; i < size; i++) {
                if (pairs[i] == pairOf(body, missing)) {
                    many++;
                }
            }
            return many;
        }

        boolean put(int body, int missing, int person) {
            if (size >= MOST_SEALS) {
                return false;
            }
            pairs[size] = pairOf(body, missing);
            persons[size] = person;
            size++;
            return true;
        }

        private static int pairOf(int body, int missing) {
            return body * MOST_FILES + missing;
        }
    }

    /** What a pair's agreements give, and what a name needs. */
    private static final class Law {
        final int[] tooth;
        final int[] mark;
        final int[] tissue;
        final int[] terms;

        Law() {
            tooth = new int[4];
            mark = new int[MARKS];
            tissue = new int[10];
            terms = new int[4];
            reset();
        }

        /** What holds where a law's text says nothing. */
        void reset() {
            tooth[1] = 1;
            tooth[2] = 4;
            tooth[3] = 6;
            for (int i = 0; i < MARKS; i++) {
                mark[i] = 5;
            }
            for (int number = 1; number <= 9; number++) {
                tissue[number] = 3;
            }
            terms[PARENT] = 2;
            terms[NEED] = 20;
            terms[MARGIN] = 5;
            terms[SEALS] = 2;
        }

        /** The points of a body with a missing one. */
        int weigh(Card body, Card file) {
            if (body.barFrom(file) != 0) {
                return NO_POINTS;
            }
            return weighTeeth(body, file) + weighMarks(body, file) + weighSheets(body, file);
        }

        private int weighTeeth(Card body, Card file) {
            int points = 0;
            for (int i = 0; i < TEETH; i++) {
                int state = body.teeth[i];
                if (within(state, 1, 3) && state == file.teeth[i]) {
                    points += tooth[state];
                }
            }
            return points;
        }

        private int weighMarks(Card body, Card file) {
            int points = 0;
            for (int i = 0; i < MARKS; i++) {
                if (body.marks[i] != 0 && file.marks[i] != 0) {
                    points += body.marks[i] == file.marks[i] ? mark[i] : -mark[i];
                }
            }
            return points;
        }

        /** Sheets known of both are alike here: unlike ones have shut the pair out. */
        private int weighSheets(Card body, Card file) {
            int points = 0;
            for (int i = 0; i < SHEETS; i++) {
                int sheet = body.sheets[i];
                if (!within(sheet, 11, 99)) {
                    continue;
                }
                if (file.sheets[i] != 0) {
                    points += tissue[sheet / 10] + tissue[sheet % 10];
                }
                if (file.parent[i] != 0) {
                    points += terms[PARENT];
                }
            }
            return points;
        }
    }

    /** The bytes that came and were not read yet. */
    private static final class Tape {
        final byte[] bytes;
        int length;

        Tape() {
            bytes = new byte[MOST_BYTES];
        }

        boolean hasRoomFor(int more) {
            return length + more <= MOST_BYTES;
        }

        /** Four bytes, the highest first. */
        void put(int four) {
            for (int shift = 24; shift >= 0 && length < MOST_BYTES; shift -= 8) {
                bytes[length] = (byte) (four >> shift);
                length++;
            }
        }
    }

    /**
     * Reads a law's text. Every take steps over blanks first and stays before a token that doesn't
     * belong there, so the place at which a take fails is the fault's, the text's end too.
     */
    private static final class Reader {
        byte[] text;
        int length;
        int at;
        int number;
        int faultPlace;

        Reader() {
            text = new byte[0];
            faultPlace = NONE;
        }

        /** Writes the law of a text into a draft: how many statements, NONE with a fault. */
        int read(byte[] bytes, int n, Law draft) {
            text = bytes;
            length = Math.min(n, bytes.length);
            at = 0;
            draft.reset();
            int statements = 0;
            boolean well = true;
            skipBlanks();
            while (well && at < length && statements < MOST_STATEMENTS) {
                statements++;
                well = takeStatement(draft);
                skipBlanks();
            }
            faultPlace = at < length || !well ? at : NONE;
            return faultPlace == NONE ? statements : NONE;
        }

        private boolean takeStatement(Law draft) {
            if (takeWord("tooth")) {
                return takeEntry(draft.tooth, 1, 3);
            }
            if (takeWord("mark")) {
                return takeEntry(draft.mark, 0, MARKS - 1);
            }
            if (takeWord("tissue")) {
                return takeEntry(draft.tissue, 1, 9);
            }
            if (takeWord("parent")) {
                return takeTerm(draft.terms, PARENT, 0, 999);
            }
            if (takeWord("need")) {
                return takeTerm(draft.terms, NEED, 0, 999);
            }
            if (takeWord("margin")) {
                return takeTerm(draft.terms, MARGIN, 0, 999);
            }
            return takeWord("seals") && takeTerm(draft.terms, SEALS, 1, 5);
        }

        /** NUMBER "is" NUMBER ";", the first from least to greatest. */
        private boolean takeEntry(int[] row, int least, int greatest) {
            if (!takeNumber(least, Math.min(greatest, row.length - 1))) {
                return false;
            }
            int place = number;
            if (!takeWord("is") || !takeNumber(0, 999)) {
                return false;
            }
            row[place] = number;
            return takeEnd();
        }

        /** NUMBER ";", from least to greatest. */
        private boolean takeTerm(int[] terms, int term, int least, int greatest) {
            if (!takeNumber(least, greatest)) {
                return false;
            }
            terms[term] = number;
            return takeEnd();
        }

        private boolean takeWord(String word) {
            skipBlanks();
            int end = endOfRun('a', 'z');
            if (end - at != word.length()) {
                return false;
            }
            for (int i = 0; i < word.length(); i++) {
                if (text[at + i] != word.charAt(i)) {
                    return false;
                }
            }
            at = end;
            return true;
        }

        private boolean takeNumber(int least, int greatest) {
            skipBlanks();
            int end = endOfRun('0', '9');
            if (end == at || end - at > 3) {
                return false;
            }
            int value = 0;
            for (int i = at; i < end; i++) {
                value = 10 * value + text[i] - '0';
            }
            if (!within(value, least, greatest)) {
                return false;
            }
            number = value;
            at = end;
            return true;
        }

        private boolean takeEnd() {
            skipBlanks();
            if (at >= length || text[at] != ';') {
                return false;
            }
            at++;
            return true;
        }

        private void skipBlanks() {
            while (at < length && (text[at] == ' ' || text[at] == '\n')) {
                at++;
            }
        }

        /** Where the bytes from low to high that begin here end. */
        private int endOfRun(char low, char high) {
            int end = at;
            while (end < length && within(text[end], low, high)) {
                end++;
            }
            return end;
        }
    }

    /**
     * The one-to-one pairing of the greatest sum, and of several the first, found by the Hungarian
     * method. So that the first one is the only best, a pair's points stand above twelve places of base
     * 13, one for each body, the least body's highest: a pair adds to its body's place the more, the
     * lesser its missing one is, and none adds nothing. Points of a pair stay below 21000, so the
     * greatest worth (and with it every price) stays below 5 * 10^17.
     */
    private static final class Pairing {
        private static final int BASE = MOST_FILES + 1;
        /** 13 to the 12th. */
        private static final long POINT = 23298085122481L;
        /** Greater than every gap. */
        private static final long FAR = 4000000000000000000L;

        /** Of each body and each missing one; 0 where they can't be a pair. */
        final int[][] points;
        /** Of each body the missing one it has, NONE without. */
        final int[] partner;
        int sum;

        // Rows (bodies) and columns (missing ones) count from 1: 0 is "none", and column 0 holds the row to be placed.
        private final long[][] worth;
        private final int[] rowIn;
        private final long[] rowPrices;
        private final long[] columnPrices;
        private final long[] gaps;
        private final int[] reachedFrom;
        private final boolean[] reached;

        Pairing() {
            points = new int[MOST_FILES][MOST_FILES];
            partner = new int[MOST_FILES];
            worth = new long[BASE][BASE];
            rowIn = new int[BASE];
            rowPrices = new long[BASE];
            columnPrices = new long[BASE];
            gaps = new long[BASE];
            reachedFrom = new int[BASE];
            reached = new boolean[BASE];
        }

        /** Finds partners and sum by the points. */
        void settle() {
            appraise();
            for (int i = 0; i < BASE; i++) {
                rowIn[i] = 0;
                rowPrices[i] = 0;
                columnPrices[i] = 0;
            }
            for (int row = 1; row < BASE; row++) {
                place(row);
            }
            readOff();
        }

        /** How much less the sum is without the pair of a body. Partners, points and sum are of that pairing then. */
        int lossWithout(int body) {
            if (partner[body] == NONE) {
                return 0;
            }
            int whole = sum;
            points[body][partner[body]] = 0;
            settle();
            return whole - sum;
        }

        private void appraise() {
            long step = POINT;
            for (int body = 0; body < MOST_FILES; body++) {
                step /= BASE;
                for (int missing = 0; missing < MOST_FILES; missing++) {
                    int given = points[body][missing];
                    worth[body + 1][missing + 1] = given > 0 ? given * POINT + (MOST_FILES - missing) * step : 0;
                }
            }
        }

        /** A pair without worth is none: every row gets a column, as there are as many. */
        private void readOff() {
            sum = 0;
            for (int body = 0; body < MOST_FILES; body++) {
                partner[body] = NONE;
            }
            for (int column = 1; column < BASE; column++) {
                int body = rowIn[column] - 1;
                if (body >= 0 && points[body][column - 1] > 0) {
                    partner[body] = column - 1;
                    sum += points[body][column - 1];
                }
            }
        }

        /** Gives a row a column, moving rows that have one along the cheapest way to a free column. */
        private void place(int row) {
            for (int i = 0; i < BASE; i++) {
                gaps[i] = FAR;
                reached[i] = false;
            }
            rowIn[0] = row;
            int column = 0;
            for (int step = 0; step < BASE && rowIn[column] != 0; step++) {
                reached[column] = true;
                measure(column);
                column = nearest();
                shiftPrices(gaps[column]);
            }
            for (int step = 0; step < BASE && column != 0; step++) {
                int before = reachedFrom[column];
                rowIn[column] = rowIn[before];
                column = before;
            }
        }

        /** How near the columns not reached yet are by the row in this one. */
        private void measure(int column) {
            int row = rowIn[column];
            for (int other = 1; other < BASE; other++) {
                long gap = -worth[row][other] - rowPrices[row] - columnPrices[other];
                if (!reached[other] && gap < gaps[other]) {
                    gaps[other] = gap;
                    reachedFrom[other] = column;
                }
            }
        }

        private int nearest() {
            int best = 0;
            for (int column = 1; column < BASE; column++) {
                if (!reached[column] && (best == 0 || gaps[column] < gaps[best])) {
                    best = column;
                }
            }
            return best;
        }

        private void shiftPrices(long gap) {
            for (int column = 0; column < BASE; column++) {
                if (reached[column]) {
                    rowPrices[rowIn[column]] += gap;
                    columnPrices[column] -= gap;
                } else {
                    gaps[column] -= gap;
                }
            }
        }
    }
}
