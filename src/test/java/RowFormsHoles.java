/** 'Terms', 4: FILLINGS of a PATTERN, what is WRITTEN; and both IMAGES, and each number of told(). */
public final class RowFormsHoles extends Due {
    private static final int UNKNOWN = RowForms.UNKNOWN, OUTSIDE = RowForms.OUTSIDE, STATE = RowForms.STATE;
    private static final int NONE = RowForms.NONE;
    private static final int R6 = 30;
    private static final String KEPT_BY_R6 = "967845et2103";
    private static final String[] FOUR = {Signs.BERG, Signs.WEBERN, KEPT_BY_R6, "5t4931860e27"};
    private static final String[] RISING = {Signs.RISING, Signs.RISING, Signs.RISING, Signs.RISING};
    private static final String[] CHANGED = {"tell " + FOUR[0], "load 0", "tell " + FOUR[1], "load 1",
        "tell " + FOUR[2], "load 2", "tell " + FOUR[3], "load 3", "tell 0??????????1", "punch"};

    public static void main(String[] args) {
        allHoles();
        noHole();
        oneHole();
        oneToneTold();
        acrossFromEachOther();
        toldElsewhere();
        neverAtOddsWithP0();
        formsThatKeepNoRow();
        fewHolesTriedOut();
        theFirstOne();
        theFirstSign();
        theLastSign();
        behindTheLastSign();
        allThatIsWritten();
        imagesThatWereNotKept();
        imagesThatWereKept();
        imagesKeptTwice();
        imagesKeepNoSigns();
        toldSignsAndHoles();
        toldTones();
        toldRows();
        toldOtherNumbers();
        end();
    }

    private static boolean keepsSomeRow(int form) {
        return form == 0 || form == R6 || form >= 36 && form % 2 == 1;
    }

    private static String with(String signs, int place, char sign) {
        return signs.substring(0, place) + sign + signs.substring(place + 1);
    }

    private static int fillings(String pattern, int form) {
        return Asked.withPattern(pattern).ask("fillings " + form);
    }

    private static void dueFillings(String pattern, int form, int many) {
        due("fillings of " + pattern + " by " + Signs.name(form), fillings(pattern, form), many);
    }

    private static void allHoles() {
        sentence("FILLINGS of a PATTERN that is all HOLES");
        for (int form = 0; form < 48; form++) {
            int many = form == 0 ? 479001600 : keepsSomeRow(form) ? 46080 : 0;
            due(new Asked(), "fillings " + form, many);
            dueFillings(Signs.HOLES, form, many);
            due("a first one by " + Signs.name(form), new Asked().filling(form).equals(Signs.HOLES) ? 0 : 1,
                many == 0 ? 0 : 1);
        }
        due("the first one by P0", new Asked().filling(0), "0123456789te");
        due("the first one by R6", new Asked().filling(R6), "012345et9876");
        String[] first = {"023456789te1", "01456789te23", "0126789te345", "012389te4567", "01234te56789",
            "0123456789te"};
        for (int k = 0; k < first.length; k++) {
            due("the first one by RI" + (2 * k + 1), new Asked().filling(37 + 2 * k), first[k]);
        }
    }

    private static void noHole() {
        sentence("FILLINGS of a PATTERN that has no HOLE");
        for (String row : new String[] {Signs.BERG, Signs.WEBERN, Signs.RISING, KEPT_BY_R6, "023456789te1"}) {
            Asked x = Asked.withPattern(row);
            due(x, "told 1", 0);
            for (int form = 0; form < 48; form++) {
                boolean keeps = Signs.form(row, form).equals(row);
                due("fillings of " + row + " by " + Signs.name(form), x.ask("fillings " + form), keeps ? 1 : 0);
                due("filling of " + row + " by " + Signs.name(form), x.ask("filling " + form + " 0"),
                    keeps ? Signs.tone(row.charAt(0)) : NONE);
            }
            due("the filling of " + row, x.filling(0), row);
        }
    }

    private static void oneHole() {
        sentence("FILLINGS of a PATTERN with one HOLE");
        for (int place = 0; place < 12; place++) {
            String pattern = with(KEPT_BY_R6, place, '?');
            Asked x = Asked.withPattern(pattern);
            due(x, "fillings 0", 1);
            due(x, "fillings 30", 1);
            due(x, "fillings 37", 0);
            due("by P0", x.filling(0), KEPT_BY_R6);
            due("by R6", x.filling(R6), KEPT_BY_R6);
            String other = with(with(KEPT_BY_R6, place, '?'), 11 - place, '?');
            dueFillings(other, R6, 2);
            dueFillings(other, 0, 2);
        }
    }

    private static void oneToneTold() {
        sentence("FILLINGS of a PATTERN with one TONE told");
        for (int place = 0; place < 12; place++) {
            for (char tone : Signs.TONES.toCharArray()) {
                String pattern = with(Signs.HOLES, place, tone);
                Asked x = Asked.withPattern(pattern);
                due(x, "fillings 0", 39916800);
                due(x, "fillings 30", 3840);
                due(x, "fillings 47", 3840);
                due(x, "fillings 36", 0);
                due(x, "filling 30 " + place, Signs.tone(tone));
                due(x, "filling 30 " + (11 - place), (Signs.tone(tone) + 6) % 12);
                due(x, "filling 47 " + (11 - place), 11 - Signs.tone(tone));
            }
        }
    }

    private static void acrossFromEachOther() {
        sentence("TONES at odds with the FORM, across from each other");
        for (int place = 0; place < 6; place++) {
            for (char a : Signs.TONES.toCharArray()) {
                for (char b : Signs.TONES.replace("" + a, "").toCharArray()) {
                    String pattern = with(with(Signs.HOLES, place, a), 11 - place, b);
                    dueFillings(pattern, R6, Signs.turned(a, R6) == b ? 3840 : 0);
                    dueFillings(pattern, 41, Signs.turned(a, 41) == b ? 3840 : 0);
                }
            }
        }
    }

    private static void toldElsewhere() {
        sentence("TONES at odds with the FORM, one being told elsewhere");
        for (int first = 0; first < 12; first++) {
            for (int second = 0; second < 12; second++) {
                if (second != first && second != 11 - first) {
                    for (int form : new int[] {R6, 37, 43}) {
                        String odd = with(with(Signs.HOLES, first, '4'), second, Signs.turned('4', form));
                        dueFillings(odd, form, 0);
                        due("the first one of " + odd, Asked.withPattern(odd).filling(form), Signs.HOLES);
                        dueFillings(odd, 0, 3628800);
                        String even = with(with(Signs.HOLES, first, '4'), second, Signs.turned('5', form));
                        dueFillings(even, form, 384);
                    }
                }
            }
        }
    }

    private static void neverAtOddsWithP0() {
        sentence("FILLINGS by P0: all ROWS that have the TONES told");
        int many = 1;
        for (int holes = 0; holes <= 12; holes++) {
            many *= Math.max(1, holes);
            String pattern = Signs.WEBERN.substring(0, 12 - holes) + Signs.HOLES.substring(0, holes);
            dueFillings(pattern, 0, many);
            dueFillings(new StringBuilder(pattern).reverse().toString(), 0, many);
        }
    }

    private static void formsThatKeepNoRow() {
        sentence("no FILLING by a FORM that KEEPS no ROW");
        for (String pattern : new String[] {Signs.HOLES, "0???????????", Signs.BERG}) {
            Asked x = Asked.withPattern(pattern);
            for (int form = 0; form < 48; form++) {
                if (!keepsSomeRow(form)) {
                    due(x, "fillings " + form, 0);
                    due(x, "filling " + form + " 0", NONE);
                    due(x, "filling " + form + " 11", NONE);
                    due(x, "filling " + form + " 12", OUTSIDE);
                }
            }
        }
    }

    /** How many rows, tried one by one from the least on, have the tones of the pattern and are kept. */
    private static int tried(String pattern, int form, String[] first) {
        int place = pattern.indexOf('?');
        if (place < 0) {
            boolean keeps = Signs.form(pattern, form).equals(pattern);
            first[0] = keeps && first[0].isEmpty() ? pattern : first[0];
            return keeps ? 1 : 0;
        }
        int many = 0;
        for (char tone : Signs.TONES.toCharArray()) {
            if (pattern.indexOf(tone) < 0) {
                many += tried(with(pattern, place, tone), form, first);
            }
        }
        return many;
    }

    private static void fewHolesTriedOut() {
        sentence("FILLINGS, all tried out");
        String[] patterns = {"9678????2103", "967?45??21?3", "?6?845et?1?3", "????45et2103", "967845et????",
            "0?2?4?6?89te", "?123????89te", "01?34??78?te", "02345??89te1", "9678453et1??", "?12345678te?",
            "96?8453et1?2"};
        for (String pattern : patterns) {
            Asked x = Asked.withPattern(pattern);
            for (int form : new int[] {0, 1, 6, 12, 23, 24, R6, 35, 36, 37, 39, 41, 43, 45, 46, 47}) {
                String[] first = {""};
                due("fillings of " + pattern + " by " + Signs.name(form), x.ask("fillings " + form),
                    tried(pattern, form, first));
                due("the first one of " + pattern + " by " + Signs.name(form), x.filling(form),
                    first[0].isEmpty() ? Signs.HOLES : first[0]);
            }
        }
    }

    private static void theFirstOne() {
        sentence("the first one: that of the least TONES, from place 0 on");
        due("by P0", Asked.withPattern("?5??0??t????").filling(0), "1523046t789e");
        due("by P0", Asked.withPattern("e???????????").filling(0), "e0123456789t");
        due("by P0", Asked.withPattern("???????????0").filling(0), "123456789te0");
        due("by R6", Asked.withPattern("???????????0").filling(R6), "612345et9870");
        due("by R6", Asked.withPattern("1???????????").filling(R6), "102345et9867");
        due("by RI1", Asked.withPattern("??????0?????").filling(37), "2345610789te");
        due("by RI11", Asked.withPattern("?????e??????").filling(47), "12345e06789t");
    }

    private static void theFirstSign() {
        sentence("WRITTEN, its first sign");
        Asked x = Asked.withRow(Signs.BERG);
        for (int form = 0; form < 48; form++) {
            due(x, "sign 0 " + form + " 0", "PIRR".charAt(form / 12));
            due(x, "sign 0 " + form + " 1", form < 36 ? Signs.name(form).charAt(1) : 'I');
        }
    }

    private static void theLastSign() {
        sentence("WRITTEN, its last sign");
        int[] length = {15, 15, 15, 16};
        for (int form = 0; form < 48; form++) {
            Asked x = Asked.withRow(Signs.BERG);
            int many = length[form / 12] + (form % 12 < 10 ? 0 : 1);
            due(x, "sign 0 " + form + " -1", many);
            due(x, "sign 0 " + form + " " + (many - 1), Signs.form(Signs.BERG, form).charAt(11));
            due(x, "sign 0 " + form + " " + (many - 12), Signs.form(Signs.BERG, form).charAt(0));
            due(x, "sign 0 " + form + " " + (many - 13), ':');
        }
    }

    private static void behindTheLastSign() {
        sentence("WRITTEN, behind its last sign and ahead of its first");
        for (int form = 0; form < 48; form++) {
            Asked x = new Asked();
            int many = x.ask("sign 0 " + form + " -1");
            for (int j : new int[] {many, many + 1, 20, 1000, Integer.MAX_VALUE, -2, -3, -17, Integer.MIN_VALUE}) {
                due(x, "sign 0 " + form + " " + j, NONE);
            }
        }
    }

    private static void allThatIsWritten() {
        sentence("WRITTEN: the name of a FORM, a colon, and the signs of that FORM of a ROW");
        for (int form = 0; form < 48; form++) {
            due("written", Asked.withRow(Signs.WEBERN).written(0, form),
                Signs.name(form) + ":" + Signs.form(Signs.WEBERN, form));
        }
        due("P0", new Asked().written(3, 0), "P0:0123456789te");
        due("P10", new Asked().written(0, 10), "P10:te0123456789");
        due("I11", new Asked().written(0, 23), "I11:et9876543210");
        due("R9", new Asked().written(0, 33), "R9:876543210et9");
        due("RI11", new Asked().written(0, 47), "RI11:0123456789te");
    }

    private static void imagesThatWereNotKept() {
        sentence("IMAGES that were not kept");
        for (int k = 0; k < 2; k++) {
            Asked x = new Asked();
            due(x, "restore " + k, STATE);
            due(x, "image " + (1 - k), 1);
            due(x, "restore " + k, STATE);
            due(x, "restore " + (1 - k), 1);
            due(x, "restore " + k, STATE);
            due(x, "image " + k, 1);
            due(x, "restore " + k, 1);
        }
        sentence("IMAGES 0, 1");
        Asked x = new Asked("image 0", "image 1");
        for (int k : new int[] {-1, -2, 2, 3, 256, 1 << 16, Integer.MIN_VALUE, Integer.MIN_VALUE + 1,
            Integer.MAX_VALUE}) {
            due(x, "image " + k, OUTSIDE);
            due(x, "restore " + k, OUTSIDE);
        }
    }

    private static void dueState(String what, Asked x, String pattern, String... rows) {
        due("the pattern " + what, x.pattern(), pattern);
        for (int row = 0; row < 4; row++) {
            due("row " + row + " " + what, x.row(row), rows[row]);
        }
    }

    private static void askAll(Asked x, String... lines) {
        for (String line : lines) {
            x.ask(line);
        }
    }

    private static void imagesThatWereKept() {
        sentence("they are as they were when they were kept");
        for (int k = 0; k < 2; k++) {
            Asked x = new Asked();
            due(x, "image " + k, 1);
            askAll(x, CHANGED);
            due(x, "image " + (1 - k), 1);
            askAll(x, "turn 0 1 0", "turn 1 1 1", "turn 2 1 2", "turn 3 1 3", "tell " + Signs.BERG, "punch");
            due(x, "restore " + k, 1);
            dueState("at first", x, Signs.HOLES, RISING);
            due(x, "restore " + (1 - k), 1);
            dueState("behind the changes", x, "0??????????1", FOUR);
            askAll(x, "turn 0 1 0", "turn 1 1 1", "turn 2 1 2", "turn 3 1 3", "tell " + Signs.BERG, "punch");
            due(x, "restore " + (1 - k), 1);
            dueState("behind the changes, once more", x, "0??????????1", FOUR);
        }
    }

    private static void imagesKeptTwice() {
        sentence("IMAGES that are kept twice are as at the second time");
        for (int k = 0; k < 2; k++) {
            Asked x = new Asked("image 0", "image 1");
            askAll(x, CHANGED);
            due(x, "image " + k, 1);
            askAll(x, "turn 0 5 3", "turn 0 5 0", "tell " + Signs.HOLES, "punch");
            due(x, "restore " + k, 1);
            dueState("at the second time", x, "0??????????1", FOUR);
            due(x, "restore " + (1 - k), 1);
            dueState("of the other image", x, Signs.HOLES, RISING);
            due(x, "image " + k, 1);
            askAll(x, "turn 0 5 0");
            due(x, "restore " + k, 1);
            dueState("at the third time", x, Signs.HOLES, RISING);
        }
    }

    private static void imagesKeepNoSigns() {
        sentence("ROWS, the PATTERN are kept in an IMAGE, and no signs");
        Asked x = new Asked("tell 0123", "image 0", "tell 456");
        due(x, "told 0", 7);
        due(x, "restore 0", 1);
        due(x, "told 0", 7);
        due(x, "fault 0", 7);
        askAll(x, "wipe");
        due(x, "restore 0", 1);
        due(x, "told 0", 0);
        due(x, "tell P7", 2);
        due(x, "restore 0", 1);
        due(x, "named", 7);
    }

    private static void toldSignsAndHoles() {
        sentence("told: 0 signs");
        Asked x = new Asked();
        for (int many = 0; many <= 20; many++) {
            due(x, "told 0", many);
            askAll(x, "say 63");
        }
        due(x, "told 0", 20);
        sentence("told: 1 HOLES");
        for (int holes = 0; holes <= 12; holes++) {
            String pattern = Signs.HOLES.substring(0, holes) + Signs.BERG.substring(holes);
            Asked y = new Asked("tell " + pattern);
            due(y, "told 1", 12);
            due(y, "punch", holes);
            due(y, "told 1", holes);
        }
    }

    private static void toldTones() {
        sentence("told: 100 and a place: the TONE of the PATTERN there, or NONE");
        for (String pattern : new String[] {Signs.BERG, Signs.HOLES, "0?1?2?3?4?5?", "?0?1?2?3?4?e"}) {
            Asked x = Asked.withPattern(pattern);
            for (int place = 0; place < 12; place++) {
                char sign = pattern.charAt(place);
                due(x, "told " + (100 + place), sign == '?' ? NONE : Signs.tone(sign));
            }
        }
        due("rows are no pattern", Asked.withRow(Signs.BERG).pattern(), Signs.HOLES);
    }

    /** All ways in which four rows can be alike: a number tells to which of a few rows each is set. */
    private static void toldRows() {
        sentence("told: 200 and a ROW: the number of the least ROW that is as it is");
        for (int number = 0; number < 256; number++) {
            Asked x = new Asked();
            int[] is = new int[4];
            for (int row = 0; row < 4; row++) {
                is[row] = number >> 2 * row & 3;
                askAll(x, "turn " + row + " " + is[row] + " " + row);
            }
            for (int row = 0; row < 4; row++) {
                int least = 0;
                while (is[least] != is[row]) {
                    least++;
                }
                due(x, "told " + (200 + row), least);
            }
        }
        Asked last = new Asked("tell 0123456789et", "load 2");
        due("rows that differ at the last places alone", last.ask("told 202"), 2);
        due(last, "told 203", 0);
    }

    private static void toldOtherNumbers() {
        sentence("told: no other numbers");
        for (int what = -310; what <= 520; what++) {
            boolean isTold = what == 0 || what == 1 || what >= 100 && what < 112 || what >= 200 && what < 204;
            due("told " + what + " is OUTSIDE", new Asked().ask("told " + what) == OUTSIDE ? 1 : 0, isTold ? 0 : 1);
        }
        for (int what : new int[] {Integer.MIN_VALUE, Integer.MIN_VALUE + 100, Integer.MIN_VALUE + 200, 65536,
            65536 + 100, 1000000, Integer.MAX_VALUE}) {
            due(new Asked(), "told " + what, OUTSIDE);
        }
        due("no such row", new Asked().ask("told 204") == UNKNOWN ? 1 : 0, 0);
    }
}
