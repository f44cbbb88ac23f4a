import java.util.Set;
import java.util.TreeSet;

/** 'Terms', 1: the numbers of ROWS, places and FORMS, what there is at first, the PAD, and THE FAULT. */
public final class RowFormsTones extends Due {
    private static final int UNKNOWN = RowForms.UNKNOWN, OUTSIDE = RowForms.OUTSIDE;
    private static final int FULL = RowForms.FULL, NO = RowForms.NO, NONE = RowForms.NONE;
    private static final String TWENTY_HOLES = "????????????????????";

    /** Where a line takes a ROW, a place or a FORM, there is a #. */
    private static final String[] TAKE_A_ROW = {"tone # 0", "turn # 1 0", "turn 0 1 #", "canon # 0", "leads # 0 -1",
        "leads 0 # -1", "step # 0", "shared # 0 2", "partner # -1", "derived # 2", "making # 3 -1 0", "sign # 0 -1"};
    private static final String[] TAKE_A_PLACE = {"tone 0 #", "making 0 3 0 #", "making 0 4 0 #", "filling 0 #"};
    private static final String[] TAKE_A_FORM = {"turn 0 # 1", "behind # 0", "behind 0 #", "back #", "shared 0 # 2",
        "fillings #", "filling # 0", "sign 0 # -1"};

    private static final String[] FOUR = {Signs.BERG, Signs.WEBERN, "0123564789te", "5t4931860e27"};
    private static final String[] LOAD_FOUR = {"tell " + FOUR[0], "load 0", "tell " + FOUR[1], "load 1",
        "tell " + FOUR[2], "load 2", "tell " + FOUR[3], "load 3"};

    public static void main(String[] args) {
        rowsAreFour();
        eachRowIsItsOwn();
        placesAreTwelve();
        formsAreFortyEight();
        allIsLeftOverByTwelve();
        atFirst();
        thePadHasTwentySigns();
        codesAre33To126();
        anEmptyPad();
        aFullPad();
        tooManySigns();
        theFaultOfEachSign();
        noTwoAlike();
        holesMayBeAlike();
        moreMustCome();
        theFaultOfAName();
        withoutAZeroInFront();
        end();
    }

    /** Numbers that are none of 0 to that one: next to them, far out, and some that are like one but for high bits. */
    private static int[] outOf(int greatest) {
        return new int[] {-1, -2, greatest + 1, greatest + 2, -greatest - 1, -12, -100, 256, 1 << 16, 1000000,
            -(1 << 16), Integer.MAX_VALUE, Integer.MAX_VALUE - 1, Integer.MIN_VALUE, Integer.MIN_VALUE + 1,
            Integer.MIN_VALUE + greatest};
    }

    private static void outOfRange(String[] lines, int greatest, int want) {
        for (String line : lines) {
            Asked x = new Asked();
            for (int number : outOf(greatest)) {
                due(x, line.replace("#", Integer.toString(number)), want);
            }
        }
    }

    private static void inRange(String[] lines, int greatest) {
        for (String line : lines) {
            for (int number = 0; number <= greatest; number++) {
                String call = line.replace("#", Integer.toString(number));
                int answer = new Asked().ask(call);
                due(call + " is refused", answer == UNKNOWN || answer == OUTSIDE ? 1 : 0, 0);
            }
        }
    }

    private static void rowsAreFour() {
        sentence("ROWS 0 to 3");
        outOfRange(TAKE_A_ROW, 3, UNKNOWN);
        inRange(TAKE_A_ROW, 3);
        for (int row : outOf(3)) {
            due(new Asked("tell " + Signs.BERG), "load " + row, UNKNOWN);
        }
        for (int row = 0; row < 4; row++) {
            due(new Asked("tell " + Signs.BERG), "load " + row, 1);
            due(new Asked(), "told " + (200 + row), 0);
        }
        for (int row : new int[] {-1, 4, -200}) {
            due(new Asked(), "told " + (200 + row), row == -200 ? 0 : OUTSIDE);
        }
    }

    private static void eachRowIsItsOwn() {
        sentence("each of the four ROWS is one of its own");
        for (int row = 0; row < 4; row++) {
            Asked x = new Asked(LOAD_FOUR);
            Asked alone = Asked.withRow(FOUR[row]);
            due("row " + row, x.row(row), FOUR[row]);
            due("the row alike", x.ask("told " + (200 + row)), row);
            for (String line : new String[] {"canon # 5", "canon # 12", "step # 0", "step # 11", "shared # 47 3",
                "partner # -1", "partner # 0", "derived # 3", "making # 3 -1 0", "making # 3 0 11", "sign # 0 14",
                "sign # 47 8"}) {
                due(line + " of row " + row, x.ask(line.replace('#', (char) ('0' + row))),
                    alone.ask(line.replace('#', '0')));
            }
            for (int to = 0; to < 4; to++) {
                due(x, "leads " + row + " " + to + " -1", row == to ? 1 : 0);
                Asked turned = new Asked(LOAD_FOUR);
                due(turned, "turn " + row + " 41 " + to, 1);
                for (int other = 0; other < 4; other++) {
                    due("row " + other + " behind turn " + row + " 41 " + to, turned.row(other),
                        other == to ? Signs.form(FOUR[row], 41) : FOUR[other]);
                }
            }
        }
    }

    private static void placesAreTwelve() {
        sentence("places 0 to 11");
        outOfRange(TAKE_A_PLACE, 11, OUTSIDE);
        inRange(TAKE_A_PLACE, 11);
        Asked x = Asked.withRow(Signs.BERG);
        due("the row, place by place", x.row(0), Signs.BERG);
        for (int place = 0; place < 12; place++) {
            due(new Asked(), "canon 0 " + place, place);
            due(new Asked(), "told " + (100 + place), NONE);
        }
        due(x, "canon 0 -1", OUTSIDE);
        due(x, "told 99", OUTSIDE);
        due(x, "told 112", OUTSIDE);
    }

    private static void formsAreFortyEight() {
        sentence("FORMS 0 to 47");
        outOfRange(TAKE_A_FORM, 47, UNKNOWN);
        inRange(TAKE_A_FORM, 47);
        for (int form = 0; form < 48; form++) {
            Asked x = Asked.withRow(Signs.BERG);
            due(x, "turn 0 " + form + " 1", 1);
            due("form " + form, x.row(1), Signs.form(Signs.BERG, form));
        }
    }

    private static void allIsLeftOverByTwelve() {
        sentence("all left over by 12, not less than 0");
        String[][] wraps = {{"11", "0123456789te", "e0123456789t"}, {"1", "0123456789te", "123456789te0"},
            {"12", "0123456789te", "0et987654321"}, {"23", "0123456789te", "et9876543210"},
            {"35", "0123456789te", "t9876543210e"}, {"25", "0123456789te", "0et987654321"},
            {"36", "0123456789te", "123456789te0"}, {"47", "0123456789te", "0123456789te"}};
        for (String[] wrap : wraps) {
            Asked x = Asked.withRow(wrap[1]);
            x.ask("turn 0 " + wrap[0] + " 0");
            due("form " + wrap[0] + " of " + wrap[1], x.row(0), wrap[2]);
        }
        for (int form = 0; form < 48; form++) {
            Asked x = new Asked("turn 0 " + form + " 1");
            for (int tone = 0; tone < 12; tone++) {
                int n = form % 12;
                int sum = form / 12 % 2 == 0 ? tone + n : n - tone;
                int want = sum < 0 ? sum + 12 : sum > 11 ? sum - 12 : sum;
                due(x, "tone 1 " + (form < 24 ? tone : 11 - tone), want);
            }
        }
    }

    private static void atFirst() {
        sentence("at first: 0 to 11, rising");
        for (int row = 0; row < 4; row++) {
            due("row " + row, new Asked().row(row), "0123456789te");
        }
        sentence("at first: all of them");
        due("the pattern", new Asked().pattern(), "????????????");
        due(new Asked(), "told 1", 12);
        sentence("a PAD is empty at first");
        due(new Asked(), "told 0", 0);
        due(new Asked(), "wipe", 0);
    }

    private static void thePadHasTwentySigns() {
        sentence("20 signs at most");
        Asked x = new Asked();
        for (int many = 1; many <= 20; many++) {
            due(x, "say 48", many);
            due(x, "told 0", many);
        }
        due(x, "say 48", FULL);
        due(x, "say 49", FULL);
        due(x, "told 0", 20);
        due(x, "wipe", 20);
        for (int many = 1; many <= 20; many++) {
            due(x, "say 33", many);
        }
        due(x, "say 33", FULL);
    }

    private static void codesAre33To126() {
        sentence("codes 33 to 126");
        for (int code = 33; code <= 126; code++) {
            due(new Asked(), "say " + code, 1);
        }
        Asked x = new Asked();
        for (int code = -1; code <= 32; code++) {
            due(x, "say " + code, OUTSIDE);
        }
        for (int code : new int[] {127, 128, 160, 255, 256, 256 + 48, 65536 + 48, Integer.MIN_VALUE + 48, -48,
            Integer.MAX_VALUE, Integer.MIN_VALUE}) {
            due(x, "say " + code, OUTSIDE);
        }
        due(x, "told 0", 0);
    }

    private static void anEmptyPad() {
        sentence("an empty PAD");
        Asked x = new Asked();
        for (String line : new String[] {"fault 0", "fault 1", "fault 2", "wipe", "told 0"}) {
            due(x, line, 0);
        }
        for (String line : new String[] {"load 0", "load 3", "punch", "named"}) {
            due(x, line, NO);
        }
        sentence("the PAD is empty behind load, punch, wipe");
        for (String line : new String[] {"load 2", "punch", "wipe"}) {
            Asked y = new Asked("tell " + Signs.BERG, line);
            due(y, "told 0", 0);
            due(y, "fault 0", 0);
            due(y, "load 2", NO);
            due(y, "punch", NO);
            due(y, "say 48", 1);
        }
    }

    private static void aFullPad() {
        sentence("a full PAD");
        Asked x = new Asked("tell 0123456789te01234567");
        due(x, "fault 0", 12);
        due(x, "fault 1", 12);
        due(x, "fault 2", 0);
        due(x, "load 0", NO);
        due(x, "punch", NO);
        due(x, "named", NO);
        due(x, "told 0", 20);
        due("the last sign can be told", new Asked("tell " + TWENTY_HOLES).ask("fault 1"), 12);
    }

    /** From the whole on, a sign more at a time until the pad is full. */
    private static void tooManySigns() {
        sentence("too many signs for a ROW, or a PATTERN");
        for (String whole : new String[] {Signs.BERG, "0??????????1", Signs.HOLES}) {
            boolean isRow = whole.indexOf('?') < 0;
            Asked x = new Asked("tell " + whole);
            due(x, "fault 1", NONE);
            due(x, "fault 0", isRow ? NONE : whole.indexOf('?'));
            for (int many = 13; many <= 20; many++) {
                x.ask("say 63");
                due(x, "fault 1", 12);
                due(x, "fault 0", isRow ? 12 : whole.indexOf('?'));
                due(x, "load 1", NO);
                due(x, "punch", NO);
                due(x, "told 0", many);
            }
        }
        sentence("too many signs for a FORM");
        for (int form = 0; form < 48; form++) {
            Asked x = new Asked("tell " + Signs.name(form) + "?");
            due(x, "fault 2", Signs.name(form).length());
            due(x, "named", NO);
        }
        Asked x = new Asked("tell RI11111111111111111");
        due(x, "told 0", 19);
        due(x, "fault 2", 4);
        due(x, "named", NO);
    }

    /** Each code behind a beginning without a fault: as a ROW, as a PATTERN. */
    private static void theFaultOfEachSign() {
        sentence("the signs of TONES are 0 to 9, t, e, and that of a HOLE is ?");
        for (int ahead = 0; ahead < 12; ahead++) {
            String beginning = "9678453et102".substring(0, ahead);
            for (char code = 33; code <= 126; code++) {
                boolean fits = Signs.TONES.indexOf(code) >= 0 && beginning.indexOf(code) < 0;
                int next = ahead == 11 ? NONE : ahead + 1;
                Asked x = new Asked("tell " + beginning + code);
                due("fault 0 of " + beginning + code, x.ask("fault 0"), fits ? next : ahead);
                due("fault 1 of " + beginning + code, x.ask("fault 1"), fits || code == '?' ? next : ahead);
            }
        }
        sentence("the first sign that can not stand there");
        String[][] faults = {{"x0y", "0"}, {"0x1y", "1"}, {"00x", "1"}, {"0x0", "1"}, {"01x", "2"}, {"01200x", "3"},
            {"9678453et10x", "11"}, {"9678453et10x!", "11"}, {"9678453et109", "11"}, {"9678453et102x", "12"},
            {"x123456789te", "0"}, {"T123456789te", "0"}, {"0123456789tE", "11"}};
        for (String[] fault : faults) {
            due("fault 0 of " + fault[0], new Asked("tell " + fault[0]).ask("fault 0"), Integer.parseInt(fault[1]));
            due("fault 1 of " + fault[0], new Asked("tell " + fault[0]).ask("fault 1"), Integer.parseInt(fault[1]));
        }
    }

    private static void noTwoAlike() {
        sentence("no two alike");
        for (int first = 0; first < 12; first++) {
            for (int second = first + 1; second < 12; second++) {
                StringBuilder signs = new StringBuilder(Signs.WEBERN);
                signs.setCharAt(second, signs.charAt(first));
                StringBuilder holes = new StringBuilder(Signs.HOLES);
                holes.setCharAt(first, signs.charAt(first));
                holes.setCharAt(second, signs.charAt(first));
                due("fault 0 of " + signs, new Asked("tell " + signs).ask("fault 0"), second);
                due("load of " + signs, new Asked("tell " + signs).ask("load 0"), NO);
                due("fault 1 of " + signs, new Asked("tell " + signs).ask("fault 1"), second);
                due("fault 1 of " + holes, new Asked("tell " + holes).ask("fault 1"), second);
                due("punch of " + holes, new Asked("tell " + holes).ask("punch"), NO);
            }
        }
    }

    /** A hole at each place alone, and at all but one. */
    private static void holesMayBeAlike() {
        sentence("for each HOLE ?");
        for (int place = 0; place < 12; place++) {
            for (char tone : Signs.TONES.toCharArray()) {
                StringBuilder told = new StringBuilder(Signs.HOLES);
                told.setCharAt(place, tone);
                Asked x = Asked.withPattern(told.toString());
                due("the pattern", x.pattern(), told.toString());
                due(x, "told 1", 11);
            }
            StringBuilder hole = new StringBuilder(Signs.BERG);
            hole.setCharAt(place, '?');
            Asked y = new Asked("tell " + hole);
            due(y, "fault 0", place);
            due(y, "fault 1", NONE);
            due(y, "load 0", NO);
            due(y, "punch", 1);
            due("the pattern", y.pattern(), hole.toString());
        }
    }

    private static void moreMustCome() {
        sentence("the number of signs, if more must come");
        for (int many = 0; many < 12; many++) {
            Asked x = new Asked("tell " + Signs.WEBERN.substring(0, many));
            due(x, "fault 0", many);
            due(x, "fault 1", many);
            due(x, "load 0", NO);
            due(x, "punch", NO);
            Asked y = new Asked("tell " + Signs.HOLES.substring(0, many));
            due(y, "fault 1", many);
            due(y, "fault 0", 0);
            due(y, "punch", NO);
        }
        for (String name : new String[] {"P", "I", "R", "RI"}) {
            Asked x = new Asked("tell " + name);
            due(x, "fault 2", name.length());
            due(x, "named", NO);
        }
    }

    /** Each code behind each beginning of a name. */
    private static void theFaultOfAName() {
        sentence("THE FAULT as a FORM");
        Set<String> names = new TreeSet<>();
        Set<String> beginnings = new TreeSet<>();
        for (int form = 0; form < 48; form++) {
            names.add(Signs.name(form));
            for (int end = 0; end <= Signs.name(form).length(); end++) {
                beginnings.add(Signs.name(form).substring(0, end));
            }
        }
        for (String beginning : beginnings) {
            for (char code = 33; code <= 126; code++) {
                String signs = beginning + code;
                int want = !beginnings.contains(signs) ? beginning.length() : names.contains(signs) ? NONE
                    : signs.length();
                Asked x = new Asked("tell " + signs);
                due("fault 2 of " + signs, x.ask("fault 2"), want);
                due("named of " + signs + " is NO", x.ask("named") == NO ? 1 : 0, want == NONE ? 0 : 1);
                due("fault 2 of " + signs + "!", new Asked("tell " + signs + "!").ask("fault 2"),
                    want == NONE ? signs.length() : want);
            }
        }
    }

    private static void withoutAZeroInFront() {
        sentence("a name without a 0 in front");
        for (int form = 0; form < 48; form++) {
            String name = Signs.name(form);
            due("named of " + name, new Asked("tell " + name).ask("named"), form);
            String zero = name.replaceFirst("(\\d)", "0$1");
            Asked x = new Asked("tell " + zero);
            due("fault 2 of " + zero, x.ask("fault 2"), zero.indexOf('0') + 1);
            due("named of " + zero, x.ask("named"), NO);
            due("written", new Asked().written(0, form).split(":")[0], name);
        }
    }
}
