import java.nio.charset.StandardCharsets;
import java.util.ArrayList;
import java.util.Arrays;
import java.util.BitSet;
import java.util.List;
import java.util.Random;
import java.util.TreeSet;
import java.util.regex.Matcher;
import java.util.regex.Pattern;

/** Runs of calls drawn by a fixed seed, each answer compared with that of a plain model of the document. */
public final class ModelTest {
    private static final int RUNS = 800;
    private static final int DENSE_RUNS = 300;
    private static final int CALLS = 512;

    public static void main(String[] args) {
        int wrong = 0;
        int[] met = new int[8];
        for (int run = 0; run < RUNS && wrong < 10; run++) {
            wrong += compare(run, met);
        }
        for (int run = 0; run < DENSE_RUNS && wrong < 10; run++) {
            wrong += compareDense(run, met);
        }
        String[] names = {"given", "unnamed", "doubts", "joined", "laws", "faults", "pairs", "margins of 0"};
        for (int i = 0; i < names.length; i++) {
            System.out.print(names[i] + " " + met[i] + (i + 1 < names.length ? ", " : "\n"));
            if (met[i] < 100) {
                System.out.println("too few to say much: " + names[i]);
                wrong++;
            }
        }
        System.out.println(wrong == 0 ? "all runs are as the model's" : wrong + " answers are wrong");
        if (wrong != 0) {
            System.exit(1);
        }
    }

    private static int compare(int run, int[] met) {
        Random random = new Random(7919L * run + 1);
        NamedAgain x = new NamedAgain();
        Model m = new Model();
        List<String> log = new ArrayList<>();
        Draw draw = new Draw(random);
        for (int i = 0; i < CALLS; i++) {
            int[] call = draw.next(m, i);
            long got = callClass(x, call);
            long want = m.call(call);
            log.add(Arrays.toString(call) + " = " + got);
            if (got != want) {
                System.out.println("run " + run + ", call " + i + ": " + log.get(i) + ", due is " + want);
                return 1;
            }
            tally(call, got, met);
        }
        return 0;
    }

    /** Heaps near full with all marks and teeth known, few values and many ties: the pairing and every margin. */
    private static int compareDense(int run, int[] met) {
        Random random = new Random(104729L * run + 3);
        NamedAgain x = new NamedAgain();
        Model m = new Model();
        Draw draw = new Draw(random);
        List<int[]> calls = new ArrayList<>();
        int[] files = {8 + random.nextInt(5), 8 + random.nextInt(5)};
        int values = 1 + random.nextInt(4);
        draw.text = draw.textOfWeights(random.nextInt(4) == 0 ? 1000 : 4).getBytes(StandardCharsets.ISO_8859_1);
        for (draw.fedOf = 0; draw.fedOf < draw.text.length;) {
            calls.add(draw.feedNext());
        }
        calls.add(new int[] {22, draw.text.length});
        for (int side = 0; side < 2; side++) {
            for (int file = 0; file < files[side]; file++) {
                calls.add(new int[] {2, side});
                for (int k = 0; k < 4; k++) {
                    calls.add(new int[] {6, side, file, k, random.nextInt(values + 1)});
                }
                for (int t = 0; t < 3; t++) {
                    calls.add(new int[] {5, side, file, t, side + random.nextInt(3)});
                }
            }
        }
        calls.add(new int[] {15, -1});
        for (int found = 0; found < files[1]; found++) {
            calls.add(new int[] {15, found});
            calls.add(new int[] {16, found});
        }
        calls.add(new int[] {24, 6});
        for (int[] call : calls) {
            long got = callClass(x, call);
            long want = m.call(call);
            if (got != want) {
                System.out.println("dense run " + run + ": " + Arrays.toString(call) + " = " + got + ", due is " + want);
                return 1;
            }
            tally(call, got, met);
        }
        return 0;
    }

    private static void tally(int[] call, long got, int[] met) {
        met[0] += call[0] == 18 && got >= 0 ? 1 : 0;
        met[1] += call[0] == 20 && got == 1 ? 1 : 0;
        met[2] += call[0] == 24 && call[1] == 5 && got > 0 ? 1 : 0;
        met[3] += call[0] == 10 && got == 1 ? 1 : 0;
        met[4] += call[0] == 22 && got > 0 ? 1 : 0;
        met[5] += call[0] == 22 && got == -1 ? 1 : 0;
        met[6] += call[0] == 15 && call[1] >= 0 && got >= 0 ? 1 : 0;
        met[7] += call[0] == 16 && got == 0 ? 1 : 0;
    }

    private static long callClass(NamedAgain x, int[] c) {
        switch (c[0]) {
            case 2: return x.file(c[1]);
            case 3: return x.sex(c[1], c[2], c[3]) ? 1 : 0;
            case 4: return x.age(c[1], c[2], c[3], c[4]) ? 1 : 0;
            case 5: return x.tooth(c[1], c[2], c[3], c[4]) ? 1 : 0;
            case 6: return x.mark(c[1], c[2], c[3], c[4]) ? 1 : 0;
            case 7: return x.tissue(c[1], c[2], c[3], c[4], c[5]) ? 1 : 0;
            case 8: return x.pieces(c[1], c[2]) ? 1 : 0;
            case 9: return x.unfit(c[1], c[2]);
            case 10: return x.join(c[1], c[2]) ? 1 : 0;
            case 11: return x.body(c[1]);
            case 12: return x.told(c[1], c[2]);
            case 13: return x.shut(c[1], c[2]);
            case 14: return x.points(c[1], c[2]);
            case 15: return x.pairing(c[1]);
            case 16: return x.margin(c[1]);
            case 17: return x.seal(c[1], c[2], c[3]);
            case 18: return x.give(c[1]);
            case 19: return x.named(c[1], c[2]);
            case 20: return x.unname(c[1]) ? 1 : 0;
            case 21: return x.feed(c[1], c[2], c[3], c[4], c[5]);
            case 22: return x.law(c[1]);
            case 23: return x.fault();
            case 24: return x.count(c[1]);
            default: throw new IllegalStateException();
        }
    }

    /** Draws calls: mostly such as do something, now and then any. */
    private static final class Draw {
        final Random random;
        final int most;
        final int values;
        final int mending;
        final int joining;
        final int lawgiving;
        byte[] text = new byte[0];
        int fedOf = 0;
        int sealed = -1;

        Draw(Random random) {
            this.random = random;
            most = 1 + random.nextInt(12);
            values = 1 + random.nextInt(3);
            mending = 20 + random.nextInt(70);
            joining = 1 + random.nextInt(30);
            lawgiving = 20 + random.nextInt(400);
            if (random.nextInt(3) > 0) {
                text = "need 1; margin 0; seals 1;".getBytes(StandardCharsets.ISO_8859_1);
            }
        }

        int[] next(Model m, int i) {
            if (random.nextInt(60) == 0) {
                return anyCall();
            }
            if (i < 2 * most) {
                return new int[] {2, i % 2};
            }
            if (fedOf < text.length) {
                return feedNext();
            }
            if (text.length > 0) {
                int n = random.nextInt(8) == 0 ? random.nextInt(text.length + 2) : text.length;
                text = new byte[0];
                return new int[] {22, n};
            }
            if (random.nextInt(lawgiving) == 0) {
                text = textOfLaw().getBytes(StandardCharsets.ISO_8859_1);
                fedOf = 0;
                return new int[] {24, 7};
            }
            if (sealed >= 0) {
                int found = sealed;
                sealed = -1;
                return new int[] {18, found};
            }
            int named = one();
            if (m.name[named] >= 0 && random.nextInt(20) == 0) {
                return new int[] {3, 1, named, 2};
            }
            return random.nextInt(100) < mending ? mend() : ask(m);
        }

        private int[] feedNext() {
            int[] c = new int[6];
            c[0] = 21;
            for (int k = 0; k < 20; k++) {
                int b = fedOf + k < text.length ? text[fedOf + k] & 255 : 32;
                c[1 + k / 4] = c[1 + k / 4] << 8 | b;
            }
            fedOf += 20;
            return c;
        }

        private int[] anyCall() {
            int[] c = new int[6];
            c[0] = 2 + random.nextInt(23);
            for (int k = 1; k < 6; k++) {
                int kind = random.nextInt(10);
                c[k] = kind == 0 ? random.nextInt() : kind < 7 ? random.nextInt(14) - 1 : random.nextInt(260) - 2;
            }
            if (c[0] == 4 && random.nextBoolean()) {
                c[1] &= 1;
                c[3] = random.nextInt(121);
                c[4] = random.nextInt(121);
            }
            return c;
        }

        private int one() {
            return random.nextInt(most);
        }

        private int value(int from) {
            return from + random.nextInt(values);
        }

        /** Mostly such as don't shut out. */
        private int state(int side) {
            int a = random.nextInt(values);
            int b = random.nextInt(values);
            int c = random.nextInt(values);
            return random.nextInt(9) == 0 ? 0 : side == 0 ? 1 + Math.min(a, Math.min(b, c)) : 1 + Math.max(a, Math.max(b, c));
        }

        private int[] mend() {
            int side = random.nextInt(2);
            switch (random.nextInt(12)) {
                case 0: return new int[] {3, side, one(), random.nextInt(6) == 0 ? random.nextInt(3) : 1};
                case 1: {
                    int from = random.nextInt(random.nextInt(4) == 0 ? 60 : 20);
                    return new int[] {4, side, one(), from, from + 20 + random.nextInt(40)};
                }
                case 2:
                case 3:
                case 4: return new int[] {5, side, one(), random.nextInt(8), state(side)};
                case 5:
                case 6: return new int[] {6, side, one(), random.nextInt(4), random.nextInt(5) == 0 ? 0 : value(4)};
                case 7:
                case 8:
                    return new int[] {7, random.nextInt(3), one(), random.nextInt(3),
                        random.nextInt(3) == 0 ? 0 : value(1), random.nextInt(3) == 0 ? value(1) : 1};
                case 9: return new int[] {8, one(), 1 << random.nextInt(8) & random.nextInt(256)};
                case 10: return new int[] {17, one(), one(), random.nextInt(10)};
                default: return new int[] {random.nextInt(joining) == 0 ? 10 : 9, one(), one()};
            }
        }

        private int[] ask(Model m) {
            switch (random.nextInt(14)) {
                case 0: return new int[] {9, one(), one()};
                case 1: return new int[] {11, one()};
                case 2: return new int[] {12, one(), random.nextInt(34)};
                case 3: return new int[] {13, one(), one()};
                case 4: return new int[] {14, one(), one()};
                case 5: return new int[] {15, -1};
                case 6: return new int[] {15, one()};
                case 7: return new int[] {16, one()};
                case 8: return new int[] {18, one()};
                case 9: {
                    int found = one();
                    long missing = m.call(new int[] {15, found});
                    sealed = found;
                    return new int[] {17, found, missing < 0 ? one() : (int) missing, random.nextInt(10)};
                }
                case 10: return new int[] {19, one(), random.nextInt(2)};
                case 11: return random.nextInt(3) == 0 ? new int[] {20, one()} : new int[] {24, 3 + random.nextInt(4)};
                case 12: return new int[] {23};
                default: return new int[] {24, random.nextInt(11)};
            }
        }

        private String textOfWeights(int below) {
            StringBuilder b = new StringBuilder();
            for (int k = 0; k < 4; k++) {
                b.append("mark ").append(k).append(" is ").append(random.nextInt(below)).append(';');
            }
            for (int t = 1; t < 4; t++) {
                b.append("tooth ").append(t).append(" is ").append(random.nextInt(below)).append(';');
            }
            return b.toString();
        }

        private String textOfLaw() {
            StringBuilder b = new StringBuilder();
            int statements = random.nextInt(20) == 0 ? 19 + random.nextInt(4) : random.nextInt(7);
            for (int i = 0; i < statements; i++) {
                blanks(b, false);
                switch (random.nextInt(7)) {
                    case 0: entry(b, "tooth", 1 + random.nextInt(3)); break;
                    case 1: entry(b, "mark", random.nextInt(4)); break;
                    case 2: entry(b, "tissue", 1 + random.nextInt(9)); break;
                    case 3: term(b, "parent", random.nextInt(20)); break;
                    case 4: term(b, "need", random.nextInt(15)); break;
                    case 5: term(b, "margin", random.nextInt(5)); break;
                    default: term(b, "seals", 1 + random.nextInt(random.nextInt(4) == 0 ? 5 : 1)); break;
                }
            }
            blanks(b, false);
            int slips = random.nextInt(3) == 0 ? 1 + random.nextInt(2) : 0;
            for (int i = 0; i < slips && b.length() > 0; i++) {
                slip(b, random.nextInt(b.length()));
            }
            return b.toString();
        }

        private void slip(StringBuilder b, int at) {
            String odd = "0123456789;; \nasmt$\u00ff\t";
            switch (random.nextInt(4)) {
                case 0: b.deleteCharAt(at); break;
                case 1: b.insert(at, odd.charAt(random.nextInt(odd.length()))); break;
                case 2: b.setLength(at); break;
                default: b.setCharAt(at, odd.charAt(random.nextInt(odd.length()))); break;
            }
        }

        private void entry(StringBuilder b, String word, int first) {
            b.append(word);
            blanks(b, false);
            b.append(first);
            blanks(b, false);
            b.append("is");
            blanks(b, false);
            int second = random.nextInt(6) == 0 ? random.nextInt(1000) : random.nextInt(9);
            b.append(second).append(';');
        }

        private void term(StringBuilder b, String word, int number) {
            b.append(word);
            blanks(b, false);
            b.append(random.nextInt(5) == 0 && number < 10 ? "0" : "").append(number);
            blanks(b, false);
            b.append(';');
        }

        private void blanks(StringBuilder b, boolean some) {
            int many = random.nextInt(3) == 0 ? random.nextInt(3) : some ? 1 : 0;
            for (int i = 0; i < many; i++) {
                b.append(random.nextInt(4) == 0 ? '\n' : ' ');
            }
        }
    }

    private static final class Sheet {
        final int a;
        final int b;

        Sheet(int a, int b) {
            this.a = Math.min(a, b);
            this.b = Math.max(a, b);
        }

        boolean like(Sheet o) {
            return a == o.a && b == o.b;
        }

        boolean shares(Sheet o) {
            return a == o.a || a == o.b || b == o.a || b == o.b;
        }
    }

    private static final class Dossier {
        int sex = 0;
        BitSet ages = range(0, 120);
        int from = 0;
        int to = 120;
        int pieces = 0;
        int[] teeth = new int[8];
        int[] marks = new int[4];
        Sheet[] sheets = new Sheet[3];
        Sheet[] parent = new Sheet[3];
    }

    private static BitSet range(int from, int to) {
        BitSet all = new BitSet();
        all.set(from, to + 1);
        return all;
    }

    private static final class Model {
        List<Dossier> missing = new ArrayList<>();
        List<Dossier> found = new ArrayList<>();
        List<TreeSet<Integer>> bodies = new ArrayList<>();
        int[] name = new int[12];
        List<int[]> seals = new ArrayList<>();
        StringBuilder tape = new StringBuilder();
        int faultPlace = -1;
        int[] tooth = {0, 1, 4, 6};
        int[] mark = {5, 5, 5, 5};
        int[] tissue = {0, 3, 3, 3, 3, 3, 3, 3, 3, 3};
        int parent = 2;
        int need = 20;
        int margin = 5;
        int sealsNeeded = 2;

        Model() {
            Arrays.fill(name, -1);
        }

        long call(int[] c) {
            switch (c[0]) {
                case 2: return file(c[1]);
                case 3:
                case 4:
                case 5:
                case 6:
                case 7: return mend(c) ? 1 : 0;
                case 8: return pieces(c[1], c[2]) ? 1 : 0;
                case 9: return unfit(c[1], c[2]);
                case 10: return join(c[1], c[2]) ? 1 : 0;
                case 11: return bodyOf(c[1]);
                case 12: return told(c[1], c[2]);
                case 13: return !isPair(c[1], c[2]) ? -1 : bar(merged(bodyOf(c[1])), missing.get(c[2]));
                case 14: return !isPair(c[1], c[2]) ? -1 : points(bodyOf(c[1]), c[2]);
                case 15: return pairing(c[1]);
                case 16: return margin(c[1]);
                case 17: return seal(c[1], c[2], c[3]);
                case 18: return give(c[1]);
                case 19: return named(c[1], c[2]);
                case 20: return unname(c[1]) ? 1 : 0;
                case 21: return feed(c);
                case 22: return law(c[1]);
                case 23: return faultPlace;
                default: return count(c[1]);
            }
        }

        int file(int side) {
            if (side != 0 && side != 1) {
                return -1;
            }
            List<Dossier> heap = side == 0 ? missing : found;
            if (heap.size() == 12) {
                return -1;
            }
            heap.add(new Dossier());
            if (side == 1) {
                TreeSet<Integer> alone = new TreeSet<>();
                alone.add(found.size() - 1);
                bodies.add(alone);
            }
            return heap.size() - 1;
        }

        boolean mend(int[] c) {
            int side = c[0] == 7 && c[1] == 2 ? 0 : c[1];
            if (side != 0 && side != 1) {
                return false;
            }
            List<Dossier> heap = side == 0 ? missing : found;
            if (c[2] < 0 || c[2] >= heap.size()) {
                return false;
            }
            Dossier d = heap.get(c[2]);
            switch (c[0]) {
                case 3:
                    if (c[3] == 0 || c[3] == 1 || c[3] == 2) {
                        d.sex = c[3];
                        return true;
                    }
                    return false;
                case 4:
                    if (c[3] >= 0 && c[3] <= 120 && c[4] >= 0 && c[4] <= 120 && c[3] <= c[4]) {
                        d.from = c[3];
                        d.to = c[4];
                        d.ages = range(c[3], c[4]);
                        return true;
                    }
                    return false;
                case 5:
                    if (c[3] >= 0 && c[3] < 8 && c[4] >= 0 && c[4] < 4) {
                        d.teeth[c[3]] = c[4];
                        return true;
                    }
                    return false;
                case 6:
                    if (c[3] >= 0 && c[3] < 4 && c[4] >= 0 && c[4] < 10) {
                        d.marks[c[3]] = c[4];
                        return true;
                    }
                    return false;
                default: return sheet(c[1] == 2 ? d.parent : d.sheets, c[3], c[4], c[5]);
            }
        }

        boolean sheet(Sheet[] sheets, int sheet, int a, int b) {
            if (sheet != 0 && sheet != 1 && sheet != 2) {
                return false;
            }
            if (a == 0) {
                sheets[sheet] = null;
                return true;
            }
            if (a < 1 || a > 9 || b < 1 || b > 9) {
                return false;
            }
            sheets[sheet] = new Sheet(a, b);
            return true;
        }

        boolean isFound(int f) {
            return f >= 0 && f < found.size();
        }

        boolean isPair(int f, int m) {
            return isFound(f) && m >= 0 && m < missing.size();
        }

        TreeSet<Integer> members(int f) {
            for (TreeSet<Integer> b : bodies) {
                if (b.contains(f)) {
                    return b;
                }
            }
            return null;
        }

        int bodyOf(int f) {
            return isFound(f) ? members(f).first() : -1;
        }

        Dossier merged(int body) {
            Dossier all = new Dossier();
            for (int f : members(body).descendingSet()) {
                Dossier d = found.get(f);
                all.sex = d.sex != 0 ? d.sex : all.sex;
                all.ages.and(d.ages);
                all.from = Math.max(all.from, d.from);
                all.to = Math.min(all.to, d.to);
                all.pieces |= d.pieces;
                for (int t = 0; t < 8; t++) {
                    all.teeth[t] = d.teeth[t] != 0 ? d.teeth[t] : all.teeth[t];
                }
                for (int k = 0; k < 4; k++) {
                    all.marks[k] = d.marks[k] != 0 ? d.marks[k] : all.marks[k];
                }
                for (int s = 0; s < 3; s++) {
                    all.sheets[s] = d.sheets[s] != null ? d.sheets[s] : all.sheets[s];
                }
            }
            return all;
        }

        boolean pieces(int f, int pieces) {
            if (!isFound(f) || pieces < 0 || pieces > 255) {
                return false;
            }
            for (int o : members(f)) {
                if (o != f && (found.get(o).pieces & pieces) != 0) {
                    return false;
                }
            }
            found.get(f).pieces = pieces;
            return true;
        }

        static boolean apart(Dossier a, Dossier b) {
            return !a.ages.intersects(b.ages);
        }

        static boolean unlikeSheets(Dossier a, Dossier b) {
            for (int s = 0; s < 3; s++) {
                if (a.sheets[s] != null && b.sheets[s] != null && !a.sheets[s].like(b.sheets[s])) {
                    return true;
                }
            }
            return false;
        }

        int unfit(int a, int b) {
            if (!isFound(a) || !isFound(b) || bodyOf(a) == bodyOf(b)) {
                return 1;
            }
            Dossier p = merged(bodyOf(a));
            Dossier q = merged(bodyOf(b));
            if ((p.pieces & q.pieces) != 0) {
                return 2;
            }
            if (p.sex * q.sex == 2) {
                return 3;
            }
            if (apart(p, q)) {
                return 4;
            }
            if (unlikeSheets(p, q)) {
                return 5;
            }
            return name[bodyOf(a)] >= 0 || name[bodyOf(b)] >= 0 ? 6 : 0;
        }

        boolean join(int a, int b) {
            if (unfit(a, b) != 0) {
                return false;
            }
            int gone = Math.max(bodyOf(a), bodyOf(b));
            TreeSet<Integer> other = members(b);
            bodies.remove(other);
            members(a).addAll(other);
            for (int[] seal : seals) {
                if (seal[0] == gone) {
                    seal[0] = -1;
                }
            }
            return true;
        }

        int told(int f, int what) {
            if (!isFound(f)) {
                return -1;
            }
            Dossier d = merged(bodyOf(f));
            if (what == 0) {
                return d.sex;
            }
            if (what == 1) {
                return d.from;
            }
            if (what == 2) {
                return d.to;
            }
            if (what == 3) {
                return d.pieces;
            }
            if (what == 4) {
                return members(f).size();
            }
            if (what >= 10 && what < 18) {
                return d.teeth[what - 10];
            }
            if (what >= 20 && what < 24) {
                return d.marks[what - 20];
            }
            if (what >= 30 && what < 33) {
                Sheet s = d.sheets[what - 30];
                return s == null ? 0 : 10 * s.a + s.b;
            }
            return -1;
        }

        static int bar(Dossier body, Dossier m) {
            if (body.sex * m.sex == 2) {
                return 1;
            }
            if (apart(body, m)) {
                return 2;
            }
            for (int t = 0; t < 8; t++) {
                if (body.teeth[t] > 0 && m.teeth[t] > 0 && body.teeth[t] < m.teeth[t]) {
                    return 3;
                }
            }
            if (unlikeSheets(body, m)) {
                return 4;
            }
            for (int s = 0; s < 3; s++) {
                if (body.sheets[s] != null && m.parent[s] != null && !body.sheets[s].shares(m.parent[s])) {
                    return 5;
                }
            }
            return 0;
        }

        int points(int body, int m) {
            Dossier b = merged(body);
            Dossier d = missing.get(m);
            if (bar(b, d) != 0) {
                return -100000;
            }
            int sum = 0;
            for (int t = 0; t < 8; t++) {
                sum += b.teeth[t] == d.teeth[t] ? tooth[b.teeth[t]] : 0;
            }
            for (int k = 0; k < 4; k++) {
                int sign = b.marks[k] == 0 || d.marks[k] == 0 ? 0 : b.marks[k] == d.marks[k] ? 1 : -1;
                sum += sign * mark[k];
            }
            for (int s = 0; s < 3; s++) {
                if (b.sheets[s] != null && d.sheets[s] != null) {
                    sum += tissue[b.sheets[s].a] + tissue[b.sheets[s].b];
                }
                if (b.sheets[s] != null && d.parent[s] != null) {
                    sum += parent;
                }
            }
            return sum;
        }

        /** The points of the pairs that may be of the pairing, but for those taken. */
        int[][] table() {
            int[][] all = new int[12][12];
            boolean[] taken = new boolean[12];
            for (int n : name) {
                if (n >= 0) {
                    taken[n] = true;
                }
            }
            for (int b = 0; b < found.size(); b++) {
                for (int m = 0; m < missing.size(); m++) {
                    boolean open = bodyOf(b) == b && name[b] < 0 && !taken[m];
                    all[b][m] = open ? points(b, m) : 0;
                }
            }
            return all;
        }

        static int best(int[][] table, int body, int used, int[][] known) {
            if (body == 12) {
                return 0;
            }
            if (known[body][used] >= 0) {
                return known[body][used];
            }
            int best = best(table, body + 1, used, known);
            for (int m = 0; m < 12; m++) {
                if (table[body][m] > 0 && (used >> m & 1) == 0) {
                    best = Math.max(best, table[body][m] + best(table, body + 1, used | 1 << m, known));
                }
            }
            known[body][used] = best;
            return best;
        }

        static int[][] unknown() {
            int[][] known = new int[12][4096];
            for (int[] row : known) {
                Arrays.fill(row, -1);
            }
            return known;
        }

        static int sum(int[][] table) {
            return best(table, 0, 0, unknown());
        }

        int[] partners() {
            int[][] table = table();
            int[][] known = unknown();
            int[] partner = new int[12];
            int used = 0;
            for (int b = 0; b < 12; b++) {
                int due = best(table, b, used, known);
                partner[b] = -1;
                for (int m = 0; m < 12 && partner[b] < 0; m++) {
                    if (table[b][m] > 0 && (used >> m & 1) == 0
                        && table[b][m] + best(table, b + 1, used | 1 << m, known) == due) {
                        partner[b] = m;
                        used |= 1 << m;
                    }
                }
            }
            for (int b = 0; b < 12; b++) {
                partner[b] = name[b] >= 0 ? name[b] : partner[b];
            }
            return partner;
        }

        int pairing(int what) {
            if (what == -1) {
                return sum(table());
            }
            return isFound(what) ? partners()[bodyOf(what)] : -100000;
        }

        int margin(int f) {
            if (!isFound(f) || name[bodyOf(f)] >= 0) {
                return -1;
            }
            int m = partners()[bodyOf(f)];
            if (m < 0) {
                return -1;
            }
            int[][] table = table();
            int whole = sum(table);
            table[bodyOf(f)][m] = 0;
            return whole - sum(table);
        }

        int sealsOn(int body, int m) {
            int many = 0;
            for (int[] seal : seals) {
                many += seal[0] == body && seal[1] == m ? 1 : 0;
            }
            return many;
        }

        int seal(int f, int m, int person) {
            if (!isPair(f, m) || person < 0 || person > 9) {
                return -1;
            }
            for (int[] seal : seals) {
                if (seal[0] == bodyOf(f) && seal[1] == m && seal[2] == person) {
                    return -2;
                }
            }
            if (seals.size() == 60) {
                return -3;
            }
            seals.add(new int[] {bodyOf(f), m, person});
            return sealsOn(bodyOf(f), m);
        }

        int give(int f) {
            if (!isFound(f) || name[bodyOf(f)] >= 0) {
                return -2;
            }
            int m = partners()[bodyOf(f)];
            if (m < 0) {
                return -3;
            }
            if (points(bodyOf(f), m) < need) {
                return -4;
            }
            if (margin(f) < margin) {
                return -5;
            }
            if (sealsOn(bodyOf(f), m) < sealsNeeded) {
                return -6;
            }
            name[bodyOf(f)] = m;
            return m;
        }

        boolean doubt(int body) {
            return name[body] >= 0 && bar(merged(body), missing.get(name[body])) != 0;
        }

        int named(int f, int what) {
            if (!isFound(f) || what != 0 && what != 1) {
                return -1;
            }
            return what == 0 ? name[bodyOf(f)] : doubt(bodyOf(f)) ? 1 : 0;
        }

        boolean unname(int f) {
            if (!isFound(f) || !doubt(bodyOf(f))) {
                return false;
            }
            name[bodyOf(f)] = -1;
            return true;
        }

        int feed(int[] c) {
            if (tape.length() > 480) {
                return -1;
            }
            for (int k = 1; k <= 5; k++) {
                for (int shift = 24; shift >= 0; shift -= 8) {
                    tape.append((char) (c[k] >>> shift & 255));
                }
            }
            return tape.length();
        }

        int law(int n) {
            if (n < 0 || n > tape.length()) {
                return -2;
            }
            String text = tape.substring(0, n);
            tape.setLength(0);
            return new Parse(text, this).run();
        }

        int count(int what) {
            int many = 0;
            switch (what) {
                case 0: return missing.size();
                case 1: return found.size();
                case 2: return bodies.size();
                case 3:
                    for (int n : name) {
                        many += n >= 0 ? 1 : 0;
                    }
                    return many;
                case 4: return seals.size();
                case 5:
                    for (int b = 0; b < 12; b++) {
                        many += doubt(b) ? 1 : 0;
                    }
                    return many;
                case 6: {
                    BitSet free = range(0, missing.size() - 1);
                    for (int m : partners()) {
                        if (m >= 0) {
                            free.clear(m);
                        }
                    }
                    return free.cardinality();
                }
                case 7: return tape.length();
                case 8: return need;
                case 9: return margin;
                case 10: return sealsNeeded;
                default: return -1;
            }
        }
    }

    /** Tells tokens first, then walks over them by what each shape asks for. */
    private static final class Parse {
        private static final Pattern TOKEN = Pattern.compile("[a-z]+|[0-9]+|;|[^ \\n]", Pattern.DOTALL);
        private final String text;
        private final Model model;
        private final List<String> tokens = new ArrayList<>();
        private final List<Integer> places = new ArrayList<>();

        Parse(String text, Model model) {
            this.text = text;
            this.model = model;
            Matcher matcher = TOKEN.matcher(text);
            while (matcher.find()) {
                tokens.add(matcher.group());
                places.add(matcher.start());
            }
        }

        int run() {
            int[] tooth = {0, 1, 4, 6};
            int[] mark = {5, 5, 5, 5};
            int[] tissue = {0, 3, 3, 3, 3, 3, 3, 3, 3, 3};
            int[] rest = {2, 20, 5, 2};
            int statements = 0;
            int i = 0;
            while (i < tokens.size()) {
                String word = tokens.get(i);
                int which = Arrays.asList("tooth", "mark", "tissue", "parent", "need", "margin", "seals").indexOf(word);
                if (statements == 20 || which < 0) {
                    return faultAt(i);
                }
                int[] least = {1, 0, 1, 0, 0, 0, 1};
                int[] most = {3, 3, 9, 999, 999, 999, 5};
                String[] shape = which < 3 ? new String[] {"#", "is", "##", ";"} : new String[] {"#", ";"};
                int[] numbers = new int[2];
                for (int k = 0; k < shape.length; k++) {
                    String token = i + 1 + k < tokens.size() ? tokens.get(i + 1 + k) : "";
                    boolean fits;
                    if (shape[k].charAt(0) == '#') {
                        fits = token.matches("[0-9]{1,3}");
                        int value = fits ? Integer.parseInt(token) : 0;
                        boolean first = shape[k].length() == 1;
                        fits = fits && (!first || value >= least[which] && value <= most[which]);
                        numbers[first ? 0 : 1] = value;
                    } else {
                        fits = token.equals(shape[k]);
                    }
                    if (!fits) {
                        return faultAt(i + 1 + k);
                    }
                }
                if (which < 3) {
                    (which == 0 ? tooth : which == 1 ? mark : tissue)[numbers[0]] = numbers[1];
                } else {
                    rest[which - 3] = numbers[0];
                }
                i += 1 + shape.length;
                statements++;
            }
            model.tooth = tooth;
            model.mark = mark;
            model.tissue = tissue;
            model.parent = rest[0];
            model.need = rest[1];
            model.margin = rest[2];
            model.sealsNeeded = rest[3];
            model.faultPlace = -1;
            return statements;
        }

        private int faultAt(int token) {
            model.faultPlace = token < places.size() ? places.get(token) : text.length();
            return -1;
        }
    }
}
