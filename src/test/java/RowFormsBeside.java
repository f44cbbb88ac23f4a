import java.util.ArrayList;
import java.util.Arrays;
import java.util.List;
import java.util.Set;
import java.util.TreeSet;

/** 'Terms', 3: STEPS, SEGMENTS, PARTNERS, and what is DERIVED or in a MAKING. */
public final class RowFormsBeside extends Due {
    private static final int UNKNOWN = RowForms.UNKNOWN, OUTSIDE = RowForms.OUTSIDE, NONE = RowForms.NONE;
    private static final String ALL_STEPS = "0e1t29384756";
    private static final String WHOLE_TONES = "02468t13579e";
    /** Six tones that some forms of each kind take to the six others. */
    private static final String SIX = "024579";
    private static final int[] FAR = {Integer.MIN_VALUE, Integer.MIN_VALUE + 3, -100, 100, 1 << 16, Integer.MAX_VALUE};

    public static void main(String[] args) {
        stepsAtTheEnds();
        stepsWrapAround();
        unlikeSteps();
        segmentsOfTwoAndOfSix();
        segmentsAreSets();
        segmentsDoNotWrapAround();
        nOfSharedIsTwoToSix();
        partnersAtTheirFewest();
        partnersAtTheirMost();
        derivedByEachForm();
        derivedButForOnePart();
        derivedInOrder();
        nOfDerived();
        theMakingOfAllBeginnings();
        theMakingThatIsEmpty();
        theMakingIsOfTheFirstTonesAlone();
        behindTheLastOfTheMaking();
        nOfMaking();
        howManyOfTheMaking();
        end();
    }

    private static void stepsAtTheEnds() {
        sentence("STEP 0 and STEP 10");
        Asked x = Asked.withRow("530124678te9");
        due(x, "step 0 0", 10);
        due(x, "step 0 1", 9);
        due(x, "step 0 9", 1);
        due(x, "step 0 10", 10);
        due(x, "step 0 -1", OUTSIDE);
        due(x, "step 0 12", OUTSIDE);
        for (int what : FAR) {
            due(x, "step 0 " + what, OUTSIDE);
        }
    }

    private static void stepsWrapAround() {
        sentence("STEPS left over by 12, not less than 0");
        Asked x = new Asked();
        for (int i = 0; i < 11; i++) {
            due(x, "step 0 " + i, 1);
        }
        Asked y = new Asked("turn 0 12 0");
        for (int i = 0; i < 11; i++) {
            due(y, "step 0 " + i, 11);
        }
        Asked z = Asked.withRow(ALL_STEPS);
        int[] steps = {11, 2, 9, 4, 7, 6, 5, 8, 3, 10, 1};
        for (int i = 0; i < 11; i++) {
            due(z, "step 0 " + i, steps[i]);
        }
    }

    private static void unlikeSteps() {
        sentence("how many unlike STEPS there are, at least 1 and at most 11");
        String[] rows = {Signs.RISING, "et9876543210", "05t3816e4927", ALL_STEPS, Signs.form(ALL_STEPS, 47),
            Signs.BERG, Signs.WEBERN, "1023456789te", "0123456789et", "012345678e9t"};
        int[] unlike = {1, 1, 1, 11, 11, 7, 6, 3, 3, 3};
        for (int k = 0; k < rows.length; k++) {
            due("unlike steps of " + rows[k], Asked.withRow(rows[k]).ask("step 0 11"), unlike[k]);
        }
    }

    private static Set<String> segments(String row, int n) {
        Set<String> sets = new TreeSet<>();
        for (int start = 0; start + n <= 12; start++) {
            char[] tones = row.substring(start, start + n).toCharArray();
            Arrays.sort(tones);
            sets.add(new String(tones));
        }
        return sets;
    }

    private static void segmentsOfTwoAndOfSix() {
        sentence("SHARED of SEGMENTS of 2 to 6 TONES");
        for (String row : new String[] {Signs.BERG, Signs.WEBERN, Signs.RISING, WHOLE_TONES, "024579136t8e"}) {
            for (int form = 0; form < 48; form++) {
                for (int n = 2; n <= 6; n++) {
                    Set<String> both = segments(row, n);
                    both.retainAll(segments(Signs.form(row, form), n));
                    due("shared 0 " + form + " " + n + " of " + row,
                        Asked.withRow(row).ask("shared 0 " + form + " " + n), both.size());
                }
            }
        }
        Asked x = Asked.withRow(Signs.BERG);
        due(x, "shared 0 0 2", 11);
        due(x, "shared 0 24 2", 11);
        due(x, "shared 0 0 6", 7);
        due(x, "shared 0 24 6", 7);
    }

    private static void segmentsAreSets() {
        sentence("a SEGMENT is a set, in whatever order");
        Asked x = new Asked("tell 012435687et9", "load 0");
        due(x, "shared 0 24 3", 10);
        due("P6 of it", Signs.form("012345768et9", 6), "6789te102543");
        due("six tones in another order", Asked.withRow("012345768et9").ask("shared 0 6 6"), 2);
    }

    private static void segmentsDoNotWrapAround() {
        sentence("the last TONE and the first one do not stand beside each other");
        Asked x = new Asked();
        int[] movedByOne = {10, 9, 8, 7, 6};
        int[] movedBySix = {10, 8, 6, 4, 2};
        for (int n = 2; n <= 6; n++) {
            due(x, "shared 0 1 " + n, movedByOne[n - 2]);
            due(x, "shared 0 11 " + n, movedByOne[n - 2]);
            due(x, "shared 0 6 " + n, movedBySix[n - 2]);
        }
    }

    private static void nOfSharedIsTwoToSix() {
        sentence("SHARED of n other than 2 to 6");
        Asked x = new Asked();
        for (int n = -7; n <= 13; n++) {
            due(x, "shared 0 0 " + n, n >= 2 && n <= 6 ? 13 - n : OUTSIDE);
        }
        for (int n : FAR) {
            due(x, "shared 0 0 " + n, OUTSIDE);
        }
    }

    private static void partnersAtTheirFewest() {
        sentence("PARTNERS: R0 is always one");
        Asked x = Asked.withRow("0123564789te");
        due(x, "partner 0 -1", 1);
        due(x, "partner 0 0", 24);
        due(x, "partner 0 1", NONE);
    }

    private static void partnersAtTheirMost() {
        sentence("PARTNERS, rising, and NONE behind the last one");
        Asked x = Asked.withRow(WHOLE_TONES);
        due(x, "partner 0 -1", 24);
        for (int i = 0; i < 24; i++) {
            due(x, "partner 0 " + i, i < 12 ? 2 * i + 1 : 2 * i);
        }
        for (int i : new int[] {24, 25, 47, 48, -2, -3, -24}) {
            due(x, "partner 0 " + i, NONE);
        }
        for (int i : FAR) {
            due(x, "partner 0 " + i, NONE);
        }
        sentence("PARTNERS are FORMS with none of the first six");
        for (String row : new String[] {Signs.BERG, Signs.WEBERN, Signs.RISING, "024579136t8e"}) {
            Asked y = Asked.withRow(row);
            int many = 0;
            for (int form = 0; form < 48; form++) {
                String six = row.substring(0, 6) + Signs.form(row, form).substring(0, 6);
                if (Signs.allUnlike(six)) {
                    due("partner " + many + " of " + row, y.ask("partner 0 " + many), form);
                    many++;
                }
            }
            due("partners of " + row, y.ask("partner 0 -1"), many);
            due(y, "partner 0 " + many, NONE);
        }
    }

    private static void derivedByEachForm() {
        sentence("DERIVED by 6, by each FORM of the first six");
        int many = 0;
        for (int form = 0; form < 48; form++) {
            String row = SIX + Signs.form(SIX, form);
            if (Signs.allUnlike(row)) {
                many++;
                due("derived by 6: " + row, Asked.withRow(row).ask("derived 0 6"), 1);
            }
        }
        due("forms of " + SIX + " with the six others", many, 4);
        sentence("DERIVED by 3, by each KIND of the first three");
        for (String row : making("013")) {
            due("derived by 3: " + row, Asked.withRow(row).ask("derived 0 3"), 1);
        }
        sentence("DERIVED by 2, 3, 4 and 6");
        for (int n : new int[] {2, 3, 4, 6}) {
            due(new Asked(), "derived 0 " + n, 1);
            due(new Asked("turn 0 35 0"), "derived 0 " + n, 1);
        }
        sentence("a ROW that is not DERIVED");
        for (int n : new int[] {2, 3, 4, 6}) {
            due(Asked.withRow("0147258369te"), "derived 0 " + n, 0);
        }
    }

    /** Two tones are swapped in one part of a row that is derived, and one part more is not as it must be. */
    private static void derivedButForOnePart() {
        sentence("each n TONES, the second ones and the last ones, too");
        for (int n : new int[] {3, 4, 6}) {
            for (int part = n; part < 12; part += n) {
                StringBuilder row = new StringBuilder(Signs.RISING);
                row.setCharAt(part, Signs.RISING.charAt(part + 1));
                row.setCharAt(part + 1, Signs.RISING.charAt(part));
                due("derived by " + n + ": " + row, Asked.withRow(row.toString()).ask("derived 0 " + n), 0);
            }
        }
        due("all of them", Asked.withRow("0145328967et").ask("derived 0 2"), 1);
        due("but for the second two", Asked.withRow("0125346789te").ask("derived 0 2"), 0);
        due("but for the last two", Asked.withRow("01346789te25").ask("derived 0 2"), 0);
    }

    private static void derivedInOrder() {
        sentence("in their order");
        due("as sets alone, by 3", Asked.withRow("0132465798te").ask("derived 0 3"), 0);
        due("as sets alone, by 4", Asked.withRow("0123475689te").ask("derived 0 4"), 0);
        due("as sets alone, by 6", Asked.withRow("0123457689te").ask("derived 0 6"), 0);
        sentence("KIND 2, 3: these read backwards");
        due("R6 of the first six", Asked.withRow("013245et8976").ask("derived 0 6"), 1);
        due("RI11 of the first six", Asked.withRow("0132456798te").ask("derived 0 6"), 1);
        due("neither", Asked.withRow("0132456789te").ask("derived 0 6"), 0);
        due("R4 and RI11 of the first four", Asked.withRow("0132675498te").ask("derived 0 4"), 1);
        due("neither", Asked.withRow("0132675489te").ask("derived 0 4"), 0);
    }

    private static void nOfDerived() {
        sentence("DERIVED by n other than 2, 3, 4, 6");
        Asked x = new Asked();
        for (int n = -6; n <= 24; n++) {
            due(x, "derived 0 " + n, n == 2 || n == 3 || n == 4 || n == 6 ? 1 : OUTSIDE);
        }
        for (int n : FAR) {
            due(x, "derived 0 " + n, OUTSIDE);
        }
    }

    /** All rows made of these tones, in order. */
    private static List<String> making(String begin) {
        Set<String> forms = new TreeSet<>();
        for (int form = 0; form < 48; form++) {
            forms.add(Signs.form(begin, form));
        }
        List<String> rows = new ArrayList<>(List.of(begin));
        for (int end = begin.length(); end < 12; end += begin.length()) {
            List<String> longer = new ArrayList<>();
            for (String row : rows) {
                for (String form : forms) {
                    if (Signs.allUnlike(row + form)) {
                        longer.add(row + form);
                    }
                }
            }
            rows = longer;
        }
        rows.sort((a, b) -> Signs.ordered(a).compareTo(Signs.ordered(b)));
        return rows;
    }

    private static String rowThatBegins(String begin) {
        StringBuilder row = new StringBuilder(begin);
        for (char tone : Signs.TONES.toCharArray()) {
            if (begin.indexOf(tone) < 0) {
                row.append(tone);
            }
        }
        return row.toString();
    }

    /** Each beginning from tone 0 on, and some from others. */
    private static void theMakingOfAllBeginnings() {
        sentence("the MAKING: its first one, its last one, and how many there are");
        for (int number = 0; number < 12 * 12 * 12; number++) {
            String three = Signs.TONES.substring(0, 1) + Signs.TONES.charAt(number / 12 % 12)
                + Signs.TONES.charAt(number % 12);
            String four = three + Signs.TONES.charAt(number / 144);
            if (number < 144 && Signs.allUnlike(three)) {
                theMakingOf(three);
                theMakingOf(Signs.form(three, 11));
            }
            if (Signs.allUnlike(four)) {
                theMakingOf(four);
            }
        }
    }

    private static void theMakingOf(String begin) {
        List<String> rows = making(begin);
        int n = begin.length();
        int many = rows.size();
        Asked x = Asked.withRow(rowThatBegins(begin));
        due("how many of " + begin, x.ask("making 0 " + n + " -1 0"), many);
        due("behind the last of " + begin, x.made(n, many), Signs.HOLES);
        for (int i : new int[] {0, 1, many / 2, many - 2, many - 1}) {
            if (i >= 0 && i < many) {
                due("number " + i + " of " + begin, x.made(n, i), rows.get(i));
            }
        }
    }

    private static void theMakingThatIsEmpty() {
        sentence("the MAKING of TONES of which no ROW is made");
        String[] begins = {"036", "0246"};
        for (String begin : begins) {
            int n = begin.length();
            Asked x = Asked.withRow(rowThatBegins(begin));
            due(x, "making 0 " + n + " -1 0", 0);
            due(x, "making 0 " + n + " 0 0", NONE);
            due(x, "making 0 " + n + " 0 11", NONE);
            due(x, "making 0 " + n + " 1 0", NONE);
            due(x, "making 0 " + n + " -2 0", NONE);
        }
    }

    private static void theMakingIsOfTheFirstTonesAlone() {
        sentence("the MAKING is that of the first n TONES, whatever follows");
        Asked x = Asked.withRow("012e9t876543");
        due(x, "making 0 3 -1 0", 48);
        due("the first", x.made(3, 0), "0123456789te");
        due("the last", x.made(3, 47), "012et9876543");
        Asked y = Asked.withRow("0123e9t87654");
        due(y, "making 0 4 -1 0", 8);
        due("the first", y.made(4, 0), "0123456789te");
        due("the last", y.made(4, 7), "0123et987654");
    }

    private static void behindTheLastOfTheMaking() {
        sentence("the MAKING: there is no such one");
        Asked x = new Asked();
        for (int i : new int[] {48, 49, 143, -2, -3, -48, 1000000, Integer.MAX_VALUE, Integer.MIN_VALUE}) {
            due(x, "making 0 3 " + i + " 0", NONE);
            due(x, "making 0 3 " + i + " 11", NONE);
            due(x, "making 0 3 " + i + " 12", OUTSIDE);
        }
        for (int i : new int[] {8, 9, 47, -2, Integer.MAX_VALUE, Integer.MIN_VALUE}) {
            due(x, "making 0 4 " + i + " 0", NONE);
            due(x, "making 0 4 " + i + " 11", NONE);
        }
    }

    private static void nOfMaking() {
        sentence("the MAKING of n other than 3 or 4");
        Asked x = new Asked();
        for (int n = -4; n <= 13; n++) {
            due(x, "making 0 " + n + " -1 0", n == 3 ? 48 : n == 4 ? 8 : OUTSIDE);
            due(x, "making 0 " + n + " 0 0", n == 3 || n == 4 ? 0 : OUTSIDE);
        }
        for (int n : FAR) {
            due(x, "making 0 " + n + " -1 0", OUTSIDE);
        }
    }

    private static void howManyOfTheMaking() {
        sentence("how many ROWS the MAKING has: place = 0, and no other");
        Asked x = new Asked();
        for (int place = -1; place <= 12; place++) {
            due(x, "making 0 3 -1 " + place, place == 0 ? 48 : OUTSIDE);
            due(x, "making 0 4 -1 " + place, place == 0 ? 8 : OUTSIDE);
            due(x, "making 4 3 -1 " + place, UNKNOWN);
        }
    }
}
