import java.util.ArrayList;
import java.util.HashMap;
import java.util.HashSet;
import java.util.List;
import java.util.Map;
import java.util.Random;
import java.util.Set;
import java.util.TreeSet;

/**
 * Long runs of calls, drawn from fixed seeds, against a second reading of the document that tries all there is
 * (all fillings, all rows made) instead of counting; only the fillings by P0 of more than six holes are counted
 * here too, for they are too many to try.
 */
public final class RowFormsModel {
    private static final String SIGNS = "0123456789te";
    private static final int RUNS = 400;
    private static final int CALLS = 512;
    private static int wrong = 0;

    public static void main(String[] args) {
        for (int seed = 0; seed < RUNS && wrong < 20; seed++) {
            new Run(seed).play();
        }
        System.out.println(RUNS + " runs of " + CALLS + " calls, " + wrong + " answers not as due");
        if (wrong != 0) {
            System.exit(1);
        }
    }

    /** A run of calls: a command each, as a line of numbers, given to the program and to the model. */
    private static final class Run {
        private final int seed;
        private final Random random;
        private final RowForms program = new RowForms();
        private final Model model = new Model();
        private String waiting = "";

        private Run(int seed) {
            this.seed = seed;
            this.random = new Random(seed);
        }

        private void play() {
            for (int call = 0; call < CALLS; call++) {
                int[] c = next();
                long got = ofProgram(program, c);
                long want = model.answer(c);
                if (got != want) {
                    wrong++;
                    System.out.println("seed " + seed + ", call " + call + ": " + java.util.Arrays.toString(c)
                        + " answered " + got + ", due is " + want);
                    return;
                }
            }
        }

        private int[] next() {
            if (!waiting.isEmpty()) {
                char sign = waiting.charAt(0);
                waiting = waiting.substring(1);
                if (sign == '\n') {
                    return random.nextBoolean() ? new int[] {3, row()} : new int[] {4};
                }
                return new int[] {0, sign};
            }
            int kind = random.nextInt(27);
            switch (kind) {
                case 0: return new int[] {0, random.nextInt(8) == 0 ? any() : 33 + random.nextInt(94)};
                case 1: return new int[] {1};
                case 2: return new int[] {2, small(3)};
                case 3: return new int[] {3, row()};
                case 4: return new int[] {4};
                case 5: return new int[] {5};
                case 6: return new int[] {6, row(), small(12)};
                case 7: return new int[] {7, row(), form(), row()};
                case 8: return new int[] {8, form(), form()};
                case 9: return new int[] {9, form()};
                case 10: return new int[] {10, row(), small(14)};
                case 11: return new int[] {11, row(), row(), small(3) - random.nextInt(2)};
                case 12: return new int[] {12, row(), small(12)};
                case 13: return new int[] {13, row(), form(), small(8)};
                case 14: return new int[] {14, row(), small(14) - random.nextInt(2)};
                case 15: return new int[] {15, row(), small(7)};
                case 16: return making();
                case 17: return new int[] {17, random.nextBoolean() ? form() : 37 + 2 * random.nextInt(6)};
                case 18: return new int[] {18, random.nextBoolean() ? form() : 37 + 2 * random.nextInt(6), small(12)};
                case 19: return new int[] {19, row(), form(), small(18) - random.nextInt(2)};
                case 20: return new int[] {20, small(2)};
                case 21: return new int[] {21, small(2)};
                case 22: return new int[] {22, random.nextInt(3) * 100 + small(13)};
                default:
                    waiting = text();
                    return new int[] {1};
            }
        }

        private int[] making() {
            int i = random.nextInt(4) == 0 ? -1 : small(150);
            return new int[] {16, row(), random.nextInt(6) == 0 ? small(6) : 3 + random.nextInt(2), i,
                i == -1 && random.nextInt(6) != 0 ? 0 : small(12)};
        }

        private int any() {
            int[] edges = {Integer.MIN_VALUE, -2, -1, 0, 32, 33, 126, 127, Integer.MAX_VALUE};
            return edges[random.nextInt(edges.length)];
        }

        private int small(int below) {
            return random.nextInt(24) == 0 ? any() : random.nextInt(below);
        }

        private int row() {
            return small(4);
        }

        private int form() {
            return small(48);
        }

        /** Signs that tell a row, a pattern or a form, or nearly so; a line's end stands for load or punch. */
        private String text() {
            int kind = random.nextInt(8);
            if (kind == 0) {
                String[] kinds = {"P", "I", "R", "RI", "IR", "", "p"};
                return kinds[random.nextInt(kinds.length)] + random.nextInt(14) + (random.nextInt(5) == 0 ? "1" : "");
            }
            List<Integer> tones = row(kind);
            StringBuilder signs = new StringBuilder();
            int holes = random.nextBoolean() ? 0 : random.nextInt(100);
            for (int tone : tones) {
                signs.append(random.nextInt(100) < holes ? '?' : SIGNS.charAt(tone));
            }
            int fault = random.nextInt(12);
            if (fault == 0) {
                signs.setCharAt(random.nextInt(12), (char) (33 + random.nextInt(94)));
            } else if (fault == 1) {
                signs.append(SIGNS.charAt(random.nextInt(12)));
            } else if (fault == 2) {
                signs.setLength(random.nextInt(12));
            }
            return signs + "\n";
        }

        /** A row: any, or one that a form keeps, or one that is made of a few tones if that is met soon. */
        private List<Integer> row(int kind) {
            List<Integer> tones = new ArrayList<>();
            for (int tone = 0; tone < 12; tone++) {
                tones.add(tone);
            }
            java.util.Collections.shuffle(tones, random);
            if (kind == 1 || kind == 2) {
                int form = kind == 1 ? 30 : 37 + 2 * random.nextInt(6);
                List<Integer> first = new ArrayList<>();
                for (int tone : tones) {
                    if (first.size() < 6 && !first.contains(tone) && !first.contains(Model.turned(tone, form))) {
                        first.add(tone);
                    }
                }
                for (int place = 5; place >= 0; place--) {
                    first.add(Model.turned(first.get(place), form));
                }
                return first;
            }
            if (kind == 3 || kind == 4) {
                int n = kind == 3 ? 3 : 4;
                List<List<Integer>> made = new ArrayList<>(Model.made(tones.subList(0, n)));
                if (!made.isEmpty()) {
                    return made.get(random.nextInt(made.size()));
                }
            }
            return tones;
        }
    }

    private static int ofProgram(RowForms x, int[] c) {
        switch (c[0]) {
            case 0: return x.say(c[1]);
            case 1: return x.wipe();
            case 2: return x.fault(c[1]);
            case 3: return x.load(c[1]);
            case 4: return x.punch();
            case 5: return x.named();
            case 6: return x.tone(c[1], c[2]);
            case 7: return x.turn(c[1], c[2], c[3]);
            case 8: return x.behind(c[1], c[2]);
            case 9: return x.back(c[1]);
            case 10: return x.canon(c[1], c[2]);
            case 11: return x.leads(c[1], c[2], c[3]);
            case 12: return x.step(c[1], c[2]);
            case 13: return x.shared(c[1], c[2], c[3]);
            case 14: return x.partner(c[1], c[2]);
            case 15: return x.derived(c[1], c[2]);
            case 16: return x.making(c[1], c[2], c[3], c[4]);
            case 17: return x.fillings(c[1]);
            case 18: return x.filling(c[1], c[2]);
            case 19: return x.sign(c[1], c[2], c[3]);
            case 20: return x.image(c[1]);
            case 21: return x.restore(c[1]);
            default: return x.told(c[1]);
        }
    }

    private static final class Model {
        private static final int UNKNOWN = -1, OUTSIDE = -2, STATE = -3, FULL = -4, NO = -5, NONE = -6;
        private static final Set<String> NAMES = new HashSet<>();
        private static final List<String> ALL_NAMES = new ArrayList<>();
        private static final Map<String, List<List<Integer>>> MADE = new HashMap<>();
        private static final Map<String, Trial> TRIALS = new HashMap<>();

        static {
            for (String kind : new String[] {"P", "I", "R", "RI"}) {
                for (int n = 0; n < 12; n++) {
                    ALL_NAMES.add(kind + n);
                    for (int end = 0; end <= (kind + n).length(); end++) {
                        NAMES.add((kind + n).substring(0, end));
                    }
                }
            }
        }

        private List<List<Integer>> shelf = new ArrayList<>();
        private String pattern = "????????????";
        private String pad = "";
        private final Map<Integer, List<List<Integer>>> shelves = new HashMap<>();
        private final Map<Integer, String> patterns = new HashMap<>();

        private Model() {
            for (int row = 0; row < 4; row++) {
                shelf.add(List.of(0, 1, 2, 3, 4, 5, 6, 7, 8, 9, 10, 11));
            }
        }

        private static int turned(int tone, int form) {
            int sum = form / 12 % 2 == 0 ? tone + form % 12 : form % 12 - tone;
            return ((sum % 12) + 12) % 12;
        }

        private static List<Integer> formOf(List<Integer> tones, int form) {
            List<Integer> result = new ArrayList<>();
            for (int tone : tones) {
                result.add(form / 12 < 2 ? result.size() : 0, turned(tone, form));
            }
            return result;
        }

        private static int compare(List<Integer> a, List<Integer> b) {
            for (int place = 0; place < a.size(); place++) {
                if (!a.get(place).equals(b.get(place))) {
                    return a.get(place) - b.get(place);
                }
            }
            return 0;
        }

        private static List<List<Integer>> made(List<Integer> begin) {
            return MADE.computeIfAbsent(begin.toString(), key -> {
                TreeSet<List<Integer>> rows = new TreeSet<>(Model::compare);
                extend(new ArrayList<>(begin), begin, rows);
                return new ArrayList<>(rows);
            });
        }

        private static void extend(List<Integer> sofar, List<Integer> begin, Set<List<Integer>> rows) {
            if (sofar.size() == 12) {
                rows.add(sofar);
                return;
            }
            for (int form = 0; form < 48; form++) {
                List<Integer> longer = new ArrayList<>(sofar);
                longer.addAll(formOf(begin, form));
                if (new HashSet<>(longer).size() == longer.size()) {
                    extend(longer, begin, rows);
                }
            }
        }

        private static boolean row(int row) {
            return 0 <= row && row <= 3;
        }

        private static boolean form(int form) {
            return 0 <= form && form <= 47;
        }

        private static boolean place(int place) {
            return 0 <= place && place <= 11;
        }

        private static int pick(List<Integer> of, int i) {
            return i == -1 ? of.size() : i >= 0 && i < of.size() ? of.get(i) : NONE;
        }

        private long answer(int[] c) {
            int a = c.length > 1 ? c[1] : 0;
            int b = c.length > 2 ? c[2] : 0;
            int d = c.length > 3 ? c[3] : 0;
            switch (c[0]) {
                case 0: return say(a);
                case 1: return wiped();
                case 2: return a < 0 || a > 2 ? OUTSIDE : fault(a);
                case 3: return load(a);
                case 4: return punch();
                case 5: return fault(2) == NONE ? ALL_NAMES.indexOf(pad) : NO;
                case 6: return !row(a) ? UNKNOWN : place(b) ? shelf.get(a).get(b) : OUTSIDE;
                case 7: return turn(a, b, d);
                case 8: return form(a) && form(b) ? behind(a, b) : UNKNOWN;
                case 9: return form(a) ? back(a) : UNKNOWN;
                case 10: return canon(a, b);
                case 11: return row(a) && row(b) ? pick(leads(shelf.get(a), shelf.get(b)), d) : UNKNOWN;
                case 12: return step(a, b);
                case 13: return shared(a, b, d);
                case 14: return row(a) ? pick(partners(shelf.get(a)), b) : UNKNOWN;
                case 15: return derived(a, b);
                case 16: return making(a, b, d, c[4]);
                case 17: return form(a) ? fillings(a) : UNKNOWN;
                case 18: return filling(a, b);
                case 19: return row(a) && form(b) ? sign(written(a, b), d) : UNKNOWN;
                case 20: return image(a);
                case 21: return restore(a);
                default: return told(a);
            }
        }

        private int say(int sign) {
            if (sign < 33 || sign > 126) {
                return OUTSIDE;
            }
            if (pad.length() == 20) {
                return FULL;
            }
            pad += (char) sign;
            return pad.length();
        }

        private int wiped() {
            int many = pad.length();
            pad = "";
            return many;
        }

        /** Whether more signs could make these a whole. */
        private static boolean canBegin(int as, String signs) {
            if (as == 2) {
                return NAMES.contains(signs);
            }
            String tones = as == 1 ? signs.replace("?", "") : signs;
            return signs.length() <= 12 && tones.matches("[0-9te]*")
                && tones.chars().distinct().count() == tones.length();
        }

        private int fault(int as) {
            for (int end = 1; end <= pad.length(); end++) {
                if (!canBegin(as, pad.substring(0, end))) {
                    return end - 1;
                }
            }
            boolean whole = as == 2 ? ALL_NAMES.contains(pad) : pad.length() == 12;
            return whole ? NONE : pad.length();
        }

        private int load(int row) {
            if (!row(row)) {
                return UNKNOWN;
            }
            if (fault(0) != NONE) {
                return NO;
            }
            List<Integer> tones = new ArrayList<>();
            for (char sign : pad.toCharArray()) {
                tones.add(SIGNS.indexOf(sign));
            }
            shelf.set(row, tones);
            pad = "";
            return 1;
        }

        private int punch() {
            if (fault(1) != NONE) {
                return NO;
            }
            pattern = pad;
            pad = "";
            return holes();
        }

        private int holes() {
            return (int) pattern.chars().filter(sign -> sign == '?').count();
        }

        private int turn(int row, int form, int to) {
            if (!row(row) || !form(form) || !row(to)) {
                return UNKNOWN;
            }
            shelf.set(to, formOf(shelf.get(row), form));
            return 1;
        }

        /** A row whose forms are all unlike. */
        private static List<Integer> plain() {
            return List.of(0, 1, 3, 2, 4, 5, 6, 7, 8, 9, 10, 11);
        }

        private static int behind(int f, int g) {
            return leads(plain(), formOf(formOf(plain(), g), f)).get(0);
        }

        private static int back(int form) {
            return leads(formOf(plain(), form), plain()).get(0);
        }

        private static List<Integer> leads(List<Integer> from, List<Integer> to) {
            List<Integer> forms = new ArrayList<>();
            for (int form = 0; form < 48; form++) {
                if (formOf(from, form).equals(to)) {
                    forms.add(form);
                }
            }
            return forms;
        }

        private int canon(int row, int what) {
            if (!row(row)) {
                return UNKNOWN;
            }
            if (what < 0 || what > 13) {
                return OUTSIDE;
            }
            TreeSet<List<Integer>> forms = new TreeSet<>(Model::compare);
            for (int form = 0; form < 48; form++) {
                forms.add(formOf(shelf.get(row), form));
            }
            if (what == 13) {
                return forms.size();
            }
            return what == 12 ? leads(shelf.get(row), forms.first()).get(0) : forms.first().get(what);
        }

        private int step(int row, int what) {
            if (!row(row)) {
                return UNKNOWN;
            }
            if (what < 0 || what > 11) {
                return OUTSIDE;
            }
            List<Integer> steps = new ArrayList<>();
            for (int i = 0; i < 11; i++) {
                steps.add((shelf.get(row).get(i + 1) - shelf.get(row).get(i) + 12) % 12);
            }
            return what == 11 ? new HashSet<>(steps).size() : steps.get(what);
        }

        private static Set<Set<Integer>> segments(List<Integer> row, int n) {
            Set<Set<Integer>> sets = new HashSet<>();
            for (int start = 0; start + n <= 12; start++) {
                sets.add(new HashSet<>(row.subList(start, start + n)));
            }
            return sets;
        }

        private int shared(int row, int form, int n) {
            if (!row(row) || !form(form)) {
                return UNKNOWN;
            }
            if (n < 2 || n > 6) {
                return OUTSIDE;
            }
            Set<Set<Integer>> sets = segments(shelf.get(row), n);
            sets.retainAll(segments(formOf(shelf.get(row), form), n));
            return sets.size();
        }

        private static List<Integer> partners(List<Integer> row) {
            List<Integer> forms = new ArrayList<>();
            for (int form = 0; form < 48; form++) {
                Set<Integer> both = new HashSet<>(row.subList(0, 6));
                both.addAll(formOf(row, form).subList(0, 6));
                if (both.size() == 12) {
                    forms.add(form);
                }
            }
            return forms;
        }

        private int derived(int row, int n) {
            if (!row(row)) {
                return UNKNOWN;
            }
            if (!List.of(2, 3, 4, 6).contains(n)) {
                return OUTSIDE;
            }
            List<Integer> tones = shelf.get(row);
            for (int start = 0; start < 12; start += n) {
                if (leads(tones.subList(0, n), tones.subList(start, start + n)).isEmpty()) {
                    return 0;
                }
            }
            return 1;
        }

        private int making(int row, int n, int i, int place) {
            if (!row(row)) {
                return UNKNOWN;
            }
            if (!List.of(3, 4).contains(n) || !place(place) || i == -1 && place != 0) {
                return OUTSIDE;
            }
            List<List<Integer>> rows = made(shelf.get(row).subList(0, n));
            return i == -1 ? rows.size() : i >= 0 && i < rows.size() ? rows.get(i).get(place) : NONE;
        }

        private long fillings(int form) {
            int holes = holes();
            if (form == 0 && holes > 6) {
                long product = 1;
                for (int factor = 1; factor <= holes; factor++) {
                    product *= factor;
                }
                return product;
            }
            return tryAll(form, false).found;
        }

        private int filling(int form, int place) {
            if (!form(form)) {
                return UNKNOWN;
            }
            if (!place(place)) {
                return OUTSIDE;
            }
            Trial trial = tryAll(form, true);
            return trial.found == 0 ? NONE : trial.first[place];
        }

        private Trial tryAll(int form, boolean firstAlone) {
            return TRIALS.computeIfAbsent(pattern + form + firstAlone, key -> newTrial(form, firstAlone));
        }

        private Trial newTrial(int form, boolean firstAlone) {
            Trial trial = new Trial(form, firstAlone);
            for (int place = 0; place < 12; place++) {
                trial.row[place] = SIGNS.indexOf(pattern.charAt(place));
            }
            for (int tone : trial.row) {
                if (tone >= 0) {
                    trial.used.add(tone);
                }
            }
            trial.fill(0);
            return trial;
        }

        private String written(int row, int form) {
            StringBuilder text = new StringBuilder(ALL_NAMES.get(form)).append(':');
            for (int tone : formOf(shelf.get(row), form)) {
                text.append(SIGNS.charAt(tone));
            }
            return text.toString();
        }

        private static int sign(String text, int j) {
            return j == -1 ? text.length() : j >= 0 && j < text.length() ? text.charAt(j) : NONE;
        }

        private int image(int k) {
            if (k != 0 && k != 1) {
                return OUTSIDE;
            }
            shelves.put(k, new ArrayList<>(shelf));
            patterns.put(k, pattern);
            return 1;
        }

        private int restore(int k) {
            if (k != 0 && k != 1) {
                return OUTSIDE;
            }
            if (!shelves.containsKey(k)) {
                return STATE;
            }
            shelf = new ArrayList<>(shelves.get(k));
            pattern = patterns.get(k);
            return 1;
        }

        private int told(int what) {
            if (what == 0) {
                return pad.length();
            }
            if (what == 1) {
                return holes();
            }
            if (what >= 100 && what <= 111) {
                int tone = SIGNS.indexOf(pattern.charAt(what - 100));
                return tone < 0 ? NONE : tone;
            }
            return what >= 200 && what <= 203 ? shelf.indexOf(shelf.get(what - 200)) : OUTSIDE;
        }
    }

    /** Fills the holes from place 0 on with rising tones, and lets stand what the form keeps. */
    private static final class Trial {
        private final int form;
        private final boolean firstAlone;
        private final int[] row = new int[12];
        private final Set<Integer> used = new HashSet<>();
        private int[] first = new int[0];
        private long found = 0;

        private Trial(int form, boolean firstAlone) {
            this.form = form;
            this.firstAlone = firstAlone;
        }

        private void fill(int place) {
            if (firstAlone && found > 0 || !canBeKept()) {
                return;
            }
            if (place == 12) {
                first = found == 0 ? row.clone() : first;
                found++;
            } else if (row[place] >= 0) {
                fill(place + 1);
            } else {
                for (int tone = 0; tone < 12; tone++) {
                    if (used.add(tone)) {
                        row[place] = tone;
                        fill(place + 1);
                        row[place] = -1;
                        used.remove(tone);
                    }
                }
            }
        }

        private boolean canBeKept() {
            for (int place = 0; place < 12; place++) {
                int from = row[form < 24 ? place : 11 - place];
                if (from >= 0 && row[place] >= 0 && Model.turned(from, form) != row[place]) {
                    return false;
                }
            }
            return true;
        }
    }
}
