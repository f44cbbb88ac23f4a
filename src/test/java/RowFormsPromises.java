import java.util.function.IntUnaryOperator;

/**
 * For each promise of the document: ordinary calls, the edges it names, and each refusal.
 * No object here is used for more than 512 calls, for behind these all answers are free.
 */
public final class RowFormsPromises extends Due {
    private static final int[] WRONG = {Integer.MIN_VALUE, Integer.MIN_VALUE + 1, -100, -7, -6, -2, -1};
    private static final String BERG = Signs.BERG;

    public static void main(String[] args) {
        promise1NewObject();
        promise2Say();
        promise3Wipe();
        promise4FaultAsRow();
        promise4FaultAsPattern();
        promise4FaultAsForm();
        promise5Load();
        promise6Punch();
        promise7Named();
        promise8Tone();
        promise9Turn();
        promise10Behind();
        promise11Back();
        promise12Canon();
        promise13Leads();
        promise14Step();
        promise15Shared();
        promise16Partner();
        promise17Derived();
        promise18Making();
        promise19Fillings();
        promise20Filling();
        promise21Sign();
        promise22Image();
        promise23Restore();
        promise24Told();
        end();
    }

    /** Asks with numbers below 0 and from a first one above on. */
    private static void refused(String call, IntUnaryOperator ask, int above, int want) {
        for (int number : WRONG) {
            due(call + " with " + number, ask.applyAsInt(number), want);
        }
        for (int number : new int[] {above, above + 1, 1000, Integer.MAX_VALUE}) {
            due(call + " with " + number, ask.applyAsInt(number), want);
        }
    }

    private static void tell(RowForms x, String signs) {
        x.wipe();
        for (int i = 0; i < signs.length(); i++) {
            due("say " + signs.charAt(i), x.say(signs.charAt(i)), i + 1);
        }
    }

    private static RowForms withRow(String signs) {
        RowForms x = new RowForms();
        loadRow(x, 0, signs);
        return x;
    }

    private static void loadRow(RowForms x, int row, String signs) {
        tell(x, signs);
        due("load " + signs, x.load(row), 1);
    }

    private static RowForms withPattern(String signs) {
        RowForms x = new RowForms();
        tell(x, signs);
        int holes = signs.length() - signs.replace("?", "").length();
        due("punch " + signs, x.punch(), holes);
        return x;
    }

    private static String row(RowForms x, int row) {
        return Signs.of(12, place -> x.tone(row, place));
    }

    private static String pattern(RowForms x) {
        return Signs.of(12, place -> x.told(100 + place));
    }

    private static String canon(RowForms x, int row) {
        return Signs.of(12, place -> x.canon(row, place));
    }

    private static String filling(RowForms x, int form) {
        return Signs.of(12, place -> x.filling(form, place));
    }

    private static String made(RowForms x, int n, int i) {
        return Signs.of(12, place -> x.making(0, n, i, place));
    }

    private static String written(RowForms x, int form) {
        StringBuilder text = new StringBuilder();
        int signs = x.sign(0, form, -1);
        for (int j = 0; j < signs; j++) {
            text.append((char) x.sign(0, form, j));
        }
        return text.toString();
    }

    private static void promise1NewObject() {
        sentence("promise 1, new object");
        RowForms x = new RowForms();
        for (int r = 0; r < 4; r++) {
            due("a new row", row(x, r), "0123456789te");
        }
        due("a new pattern", pattern(x), "????????????");
        due("new holes", x.told(1), 12);
        due("new signs", x.told(0), 0);
        due("a new image 0", x.restore(0), RowForms.STATE);
        due("a new image 1", x.restore(1), RowForms.STATE);
        x.turn(0, 1, 1);
        due("another object's row", row(new RowForms(), 1), "0123456789te");
    }

    private static void promise2Say() {
        sentence("promise 2, say");
        RowForms x = new RowForms();
        refused("say", x::say, 127, RowForms.OUTSIDE);
        due("say(0)", x.say(0), RowForms.OUTSIDE);
        due("say(32)", x.say(32), RowForms.OUTSIDE);
        due("signs behind refusals", x.told(0), 0);
        for (int k = 1; k <= 20; k++) {
            due("say, sign " + k, x.say(k % 2 == 0 ? 33 : 126), k);
        }
        due("say into a full pad", x.say(50), RowForms.FULL);
        due("say, outside of a full pad", x.say(127), RowForms.OUTSIDE);
        due("say, outside of a full pad", x.say(32), RowForms.OUTSIDE);
        due("a full pad", x.told(0), 20);
        due("wipe", x.wipe(), 20);
        due("say again", x.say(50), 1);
    }

    private static void promise3Wipe() {
        sentence("promise 3, wipe");
        RowForms x = new RowForms();
        due("wipe of none", x.wipe(), 0);
        tell(x, "P01");
        due("wipe", x.wipe(), 3);
        due("wipe again", x.wipe(), 0);
        due("no sign is left", x.fault(0), 0);
    }

    private static void fault(int as, String signs, int want) {
        RowForms x = new RowForms();
        tell(x, signs);
        due("fault(" + as + ") of " + signs, x.fault(as), want);
        due("fault(" + as + ") of " + signs + ", again", x.fault(as), want);
        due("signs behind fault", x.told(0), signs.length());
    }

    private static void promise4FaultAsRow() {
        sentence("promise 4, fault as row");
        refused("fault", new RowForms()::fault, 3, RowForms.OUTSIDE);
        fault(0, "", 0);
        fault(0, BERG, RowForms.NONE);
        fault(0, "0123456789te", RowForms.NONE);
        fault(0, "0123456789t", 11);
        fault(0, "0", 1);
        fault(0, "0123456789T", 10);
        fault(0, "0123456789tE", 11);
        fault(0, "0123456789t0", 11);
        fault(0, "0123456789te0", 12);
        fault(0, "0123456789te!!!!!!!!", 12);
        fault(0, "00", 1);
        fault(0, "x1", 0);
        fault(0, "01?", 2);
        fault(0, "tt?", 1);
        fault(0, "ee", 1);
        fault(0, "/", 0);
        fault(0, ":", 0);
        fault(0, "0a", 1);
    }

    private static void promise4FaultAsPattern() {
        sentence("promise 4, fault as pattern");
        fault(1, "", 0);
        fault(1, "????????????", RowForms.NONE);
        fault(1, BERG, RowForms.NONE);
        fault(1, "???????????", 11);
        fault(1, "?????????????", 12);
        fault(1, "?0?0????????", 3);
        fault(1, "?0?x????????", 3);
        fault(1, "t?e?????????", RowForms.NONE);
        fault(1, "0123456789te?", 12);
    }

    private static void promise4FaultAsForm() {
        sentence("promise 4, fault as form");
        fault(2, "", 0);
        fault(2, "P", 1);
        fault(2, "I", 1);
        fault(2, "R", 1);
        fault(2, "RI", 2);
        fault(2, "p0", 0);
        fault(2, "0", 0);
        fault(2, "PI0", 1);
        fault(2, "IR0", 1);
        fault(2, "RR0", 1);
        fault(2, "RP0", 1);
        fault(2, "RII", 2);
        fault(2, "Pt", 1);
        fault(2, "P/", 1);
        fault(2, "P:", 1);
        fault(2, "RI0", RowForms.NONE);
        fault(2, "P00", 2);
        fault(2, "P01", 2);
        fault(2, "P1", RowForms.NONE);
        fault(2, "P10", RowForms.NONE);
        fault(2, "P11", RowForms.NONE);
        fault(2, "P12", 2);
        fault(2, "P100", 3);
        fault(2, "RI110", 4);
        fault(2, "P20", 2);
        fault(2, "R9", RowForms.NONE);
        fault(2, "R91", 2);
        fault(2, "R1I", 2);
    }

    private static void promise5Load() {
        sentence("promise 5, load");
        RowForms x = new RowForms();
        tell(x, BERG);
        refused("load", x::load, 4, RowForms.UNKNOWN);
        due("signs behind a refused load", x.told(0), 12);
        due("load", x.load(3), 1);
        due("the row", row(x, 3), BERG);
        due("another row", row(x, 2), "0123456789te");
        due("signs behind load", x.told(0), 0);
        due("load of none", x.load(0), RowForms.NO);
        due("load(4) of none", x.load(4), RowForms.UNKNOWN);
        tell(x, "0123456789t?");
        due("load of a pattern", x.load(3), RowForms.NO);
        due("signs behind NO", x.told(0), 12);
        tell(x, "0123456789te0");
        due("load of too many", x.load(3), RowForms.NO);
        due("the row behind NO", row(x, 3), BERG);
    }

    private static void promise6Punch() {
        sentence("promise 6, punch");
        RowForms x = new RowForms();
        due("punch of none", x.punch(), RowForms.NO);
        tell(x, "?0??t??e???1");
        due("punch", x.punch(), 8);
        due("the pattern", pattern(x), "?0??t??e???1");
        due("signs behind punch", x.told(0), 0);
        tell(x, "?0??t??e???0");
        due("punch of a tone twice", x.punch(), RowForms.NO);
        due("signs behind NO", x.told(0), 12);
        due("the pattern behind NO", pattern(x), "?0??t??e???1");
        tell(x, BERG);
        due("punch without a hole", x.punch(), 0);
        due("the pattern without a hole", pattern(x), BERG);
        due("rows behind punch", row(x, 0), "0123456789te");
    }

    private static void promise7Named() {
        sentence("promise 7, named");
        String[] kinds = {"P", "I", "R", "RI"};
        RowForms x = new RowForms();
        due("named of none", x.named(), RowForms.NO);
        for (int form = 0; form < 48; form++) {
            String name = kinds[form / 12] + form % 12;
            tell(x, name);
            due("named " + name, x.named(), form);
            due("signs behind named", x.told(0), name.length());
        }
        for (String name : new String[] {"P", "R", "RI", "P12", "P01", "IR1", "RI111", "p1", BERG}) {
            tell(x, name);
            due("named " + name, x.named(), RowForms.NO);
            due("signs behind NO", x.told(0), name.length());
        }
    }

    private static void promise8Tone() {
        sentence("promise 8, tone");
        RowForms x = withRow(BERG);
        due("tone at 0", x.tone(0, 0), 9);
        due("tone at 7", x.tone(0, 7), 11);
        due("tone at 11", x.tone(0, 11), 2);
        due("tone of row 3", x.tone(3, 11), 11);
        refused("tone of a row", r -> x.tone(r, 0), 4, RowForms.UNKNOWN);
        refused("tone at a place", p -> x.tone(0, p), 12, RowForms.OUTSIDE);
        refused("tone, both wrong", p -> x.tone(4, p), 12, RowForms.UNKNOWN);
    }

    private static void promise9Turn() {
        sentence("promise 9, turn");
        RowForms x = withRow(BERG);
        due("turn P3", x.turn(0, 3, 1), 1);
        due("P3", row(x, 1), "09te78621435");
        due("turn I3", x.turn(0, 12 + 3, 2), 1);
        due("I3", row(x, 2), "6987et045231");
        due("turn R3", x.turn(0, 24 + 3, 3), 1);
        due("R3", row(x, 3), "53412687et90");
        due("the row itself", row(x, 0), BERG);
        due("turn RI3 in place", x.turn(0, 36 + 3, 0), 1);
        due("RI3 in place", row(x, 0), "132540te7896");
        due("turn P0 in place", x.turn(0, 0, 0), 1);
        due("P0 in place", row(x, 0), "132540te7896");
        refused("turn of a row", r -> x.turn(r, 1, 0), 4, RowForms.UNKNOWN);
        refused("turn by a form", f -> x.turn(0, f, 0), 48, RowForms.UNKNOWN);
        refused("turn to a row", r -> x.turn(0, 1, r), 4, RowForms.UNKNOWN);
        due("the row behind refusals", row(x, 0), "132540te7896");
    }

    private static void promise10Behind() {
        sentence("promise 10, behind");
        RowForms x = new RowForms();
        due("P11 behind P1", x.behind(11, 1), 0);
        due("I1 behind P2", x.behind(13, 2), 12 + 11);
        due("P2 behind I1", x.behind(2, 13), 12 + 3);
        due("RI4 behind R3", x.behind(40, 27), 12 + 1);
        due("R3 behind RI4", x.behind(27, 40), 12 + 7);
        for (int f = 0; f < 48; f++) {
            RowForms y = withRow(BERG);
            for (int g = 0; g < 48; g++) {
                y.turn(0, g, 1);
                y.turn(1, f, 1);
                y.turn(0, y.behind(f, g), 2);
                due("behind(" + f + ", " + g + ") as rows", y.leads(1, 2, 0), 0);
            }
        }
        refused("behind, f", f -> x.behind(f, 0), 48, RowForms.UNKNOWN);
        refused("behind, g", g -> x.behind(0, g), 48, RowForms.UNKNOWN);
    }

    private static void promise11Back() {
        sentence("promise 11, back");
        RowForms x = new RowForms();
        due("back of P0", x.back(0), 0);
        due("back of P1", x.back(1), 11);
        due("back of I7", x.back(19), 19);
        due("back of R0", x.back(24), 24);
        due("back of R11", x.back(35), 25);
        due("back of RI11", x.back(47), 47);
        for (int form = 0; form < 48; form++) {
            due("back behind " + form, x.behind(x.back(form), form), 0);
        }
        refused("back", x::back, 48, RowForms.UNKNOWN);
    }

    private static void promise12Canon() {
        sentence("promise 12, canon");
        RowForms x = withRow("et2376845019");
        due("canon", canon(x, 0), "019845376et2");
        due("canon's form", x.canon(0, 12), 23);
        due("size", x.canon(0, 13), 48);
        for (int form = 0; form < 48; form++) {
            RowForms z = withRow("et2376845019");
            z.turn(0, form, 1);
            due("canon of form " + form, canon(z, 1), "019845376et2");
            z.turn(1, z.canon(1, 12), 2);
            due("the row that becomes it", row(z, 2), "019845376et2");
        }
        RowForms y = withRow("e9t876543210");
        due("canon of a falling row", canon(y, 0), Signs.least("e9t876543210"));
        due("canon of a rising row", canon(y, 1), "0123456789te");
        due("its form", y.canon(1, 12), 0);
        due("its size", y.canon(1, 13), 24);
        y.turn(1, 12 + 4, 1);
        due("the least of two forms", y.canon(1, 12), 16);
        y.turn(1, 24 + 4, 1);
        due("the least of two forms", y.canon(1, 12), 3);
        refused("canon of a row", r -> x.canon(r, 0), 4, RowForms.UNKNOWN);
        refused("canon, what", w -> x.canon(0, w), 14, RowForms.OUTSIDE);
        refused("canon, both wrong", w -> x.canon(-1, w), 14, RowForms.UNKNOWN);
    }

    private static void promise13Leads() {
        sentence("promise 13, leads");
        RowForms x = withRow(BERG);
        due("keepers", x.leads(0, 0, -1), 1);
        due("the keeper", x.leads(0, 0, 0), 0);
        due("no second", x.leads(0, 0, 1), RowForms.NONE);
        due("none lead", x.leads(0, 1, -1), 0);
        due("no first", x.leads(0, 1, 0), RowForms.NONE);
        for (int form = 0; form < 48; form++) {
            x.turn(0, form, 1);
            due("leads by " + form, x.leads(0, 1, 0), form);
            due("leads back by " + form, x.leads(1, 0, 0), x.back(form));
            due("many lead", x.leads(0, 1, -1), 1);
        }
        due("two keepers", x.leads(2, 3, -1), 2);
        due("the first keeper", x.leads(2, 2, 0), 0);
        due("the second keeper", x.leads(2, 2, 1), 47);
        due("no third", x.leads(2, 2, 2), RowForms.NONE);
        for (int i : new int[] {-2, Integer.MIN_VALUE, 48, Integer.MAX_VALUE}) {
            due("leads, i " + i, x.leads(2, 2, i), RowForms.NONE);
        }
        refused("leads of a row", r -> x.leads(r, 0, -1), 4, RowForms.UNKNOWN);
        refused("leads to a row", r -> x.leads(0, r, -1), 4, RowForms.UNKNOWN);
    }

    private static void promise14Step() {
        sentence("promise 14, step");
        RowForms x = withRow("0e1t29384756");
        for (int i = 0; i < 11; i++) {
            due("step " + i, x.step(0, i), i % 2 == 0 ? 11 - i : i + 1);
        }
        due("a row full of steps", x.step(0, 11), 11);
        x.turn(0, 12, 1);
        due("a step of the mirrored row", x.step(1, 0), 1);
        x.turn(2, 12, 2);
        due("steps down", x.step(2, 5), 11);
        due("unlike steps", x.step(2, 11), 1);
        due("Berg's unlike steps", withRow(BERG).step(0, 11), 7);
        refused("step of a row", r -> x.step(r, 0), 4, RowForms.UNKNOWN);
        refused("step, what", w -> x.step(0, w), 12, RowForms.OUTSIDE);
        refused("step, both wrong", w -> x.step(7, w), 12, RowForms.UNKNOWN);
    }

    private static void promise15Shared() {
        sentence("promise 15, shared");
        RowForms x = new RowForms();
        for (int n = 2; n <= 6; n++) {
            due("all segments", x.shared(0, 0, n), 13 - n);
            due("backwards", x.shared(0, 24, n), 13 - n);
            due("mirrored about the middle", x.shared(0, 12 + 11, n), 13 - n);
            due("moved by one", x.shared(0, 1, n), 12 - n);
        }
        RowForms berg = withRow("et2376845019");
        due("trichords of RI5", berg.shared(0, 41, 3), 8);
        due("trichords of P1", berg.shared(0, 1, 3), 0);
        refused("shared of a row", r -> x.shared(r, 0, 2), 4, RowForms.UNKNOWN);
        refused("shared by a form", f -> x.shared(0, f, 2), 48, RowForms.UNKNOWN);
        refused("shared, n", n -> x.shared(0, 0, n), 7, RowForms.OUTSIDE);
        due("shared, n 0", x.shared(0, 0, 0), RowForms.OUTSIDE);
        due("shared, n 1", x.shared(0, 0, 1), RowForms.OUTSIDE);
        refused("shared, all wrong", f -> x.shared(0, f, 7), 48, RowForms.UNKNOWN);
    }

    private static void promise16Partner() {
        sentence("promise 16, partner");
        RowForms x = new RowForms();
        due("partners", x.partner(0, -1), 4);
        int[] forms = {6, 12 + 11, 24, 36 + 5};
        for (int i = 0; i < forms.length; i++) {
            due("partner " + i, x.partner(0, i), forms[i]);
        }
        due("no fifth", x.partner(0, 4), RowForms.NONE);
        RowForms y = withRow("0123564789te");
        due("R0 alone", y.partner(0, -1), 1);
        due("R0", y.partner(0, 0), 24);
        due("no second", y.partner(0, 1), RowForms.NONE);
        for (int i : new int[] {-2, Integer.MIN_VALUE, 48, Integer.MAX_VALUE}) {
            due("partner, i " + i, x.partner(0, i), RowForms.NONE);
        }
        refused("partner of a row", r -> x.partner(r, -1), 4, RowForms.UNKNOWN);
    }

    private static void promise17Derived() {
        sentence("promise 17, derived");
        RowForms x = new RowForms();
        for (int n : new int[] {2, 3, 4, 6}) {
            due("a rising row by " + n, x.derived(0, n), 1);
        }
        RowForms webern = withRow("et2376845019");
        due("Webern by 3", webern.derived(0, 3), 1);
        due("Webern by 4", webern.derived(0, 4), 0);
        RowForms two = withRow("014523896te7");
        due("by 2, but for the last two", two.derived(0, 2), 0);
        RowForms order = withRow("0132465798te");
        due("as sets, but not in order", order.derived(0, 3), 0);
        RowForms six = withRow("0123457689te");
        due("by 6, the first six rising alone", six.derived(0, 6), 0);
        refused("derived, a row", r -> x.derived(r, 2), 4, RowForms.UNKNOWN);
        refused("derived, n", n -> x.derived(0, n), 7, RowForms.OUTSIDE);
        for (int n : new int[] {0, 1, 5, 12}) {
            due("derived by " + n, x.derived(0, n), RowForms.OUTSIDE);
            due("derived by " + n + ", no row", x.derived(4, n), RowForms.UNKNOWN);
        }
    }

    private static void promise18Making() {
        sentence("promise 18, making");
        RowForms x = new RowForms();
        due("made of three", x.making(0, 3, -1, 0), 48);
        due("made of four", x.making(0, 4, -1, 0), 8);
        due("the first of three", made(x, 3, 0), "0123456789te");
        due("the second of three", made(x, 3, 1), "012345678et9");
        due("the last of three", made(x, 3, 47), "012et9876543");
        due("the first of four", made(x, 4, 0), "0123456789te");
        due("the last of four", made(x, 4, 7), "0123et987654");
        due("none of these", made(x, 3, 48), "????????????");
        due("none of these", made(x, 4, 8), "????????????");
        madeRise("et2376845019", 3, 144);
        madeRise("0481592637te", 3, 6 * 6 * 6 * 6);
        madeRise("0246135789te", 4, 0);
        madeRise("0123456789te", 4, 8);
        for (int i : new int[] {-2, Integer.MIN_VALUE, 48, Integer.MAX_VALUE}) {
            due("making, i " + i, x.making(0, 3, i, 0), RowForms.NONE);
            due("making, i " + i + ", place 12", x.making(0, 3, i, 12), RowForms.OUTSIDE);
        }
        refused("making of a row", r -> x.making(r, 3, -1, 0), 4, RowForms.UNKNOWN);
        refused("making, n", n -> x.making(0, n, -1, 0), 5, RowForms.OUTSIDE);
        refused("making, place", p -> x.making(0, 3, 0, p), 12, RowForms.OUTSIDE);
        refused("making, all wrong", p -> x.making(-1, 5, 0, p), 12, RowForms.UNKNOWN);
        for (int n : new int[] {0, 1, 2, 6}) {
            due("making of " + n, x.making(0, n, -1, 0), RowForms.OUTSIDE);
        }
        due("how many, at a place", x.making(0, 3, -1, 1), RowForms.OUTSIDE);
        due("how many, at a place", x.making(0, 3, -1, 11), RowForms.OUTSIDE);
        due("rows behind making", row(x, 0), "0123456789te");
    }

    private static void madeRise(String begin, int n, int many) {
        String before = "";
        due("rows made of " + n + " of " + begin, withRow(begin).making(0, n, -1, 0), many);
        due("behind the last made", withRow(begin).making(0, n, many, 11), RowForms.NONE);
        for (int i = 0; i < many; i++) {
            String signs = made(withRow(begin), n, i);
            String letters = signs.replace('e', 'b').replace('t', 'a');
            due("the order of " + before + ", " + letters, letters.compareTo(before) > 0 ? 1 : 0, 1);
            due("derived: " + signs, withRow(signs).derived(0, n), 1);
            due("the beginning of " + signs, signs.substring(0, n), begin.substring(0, n));
            before = letters;
        }
    }

    private static void promise19Fillings() {
        sentence("promise 19, fillings");
        RowForms x = new RowForms();
        for (int form = 0; form < 48; form++) {
            boolean pairs = form == 30 || form > 36 && form % 2 == 1;
            due("all holes, form " + form, x.fillings(form), form == 0 ? 479001600 : pairs ? 46080 : 0);
        }
        due("a rising row, P0", withPattern("0123456789te").fillings(0), 1);
        due("a rising row, RI11", withPattern("0123456789te").fillings(47), 1);
        due("a rising row, R6", withPattern("0123456789te").fillings(30), 0);
        due("one told", withPattern("0???????????").fillings(30), 3840);
        due("two told across", withPattern("0??????????6").fillings(30), 3840);
        due("two told across, at odds", withPattern("0??????????7").fillings(30), 0);
        due("told elsewhere", withPattern("06??????????").fillings(30), 0);
        due("told elsewhere, at the end", withPattern("??????6????0").fillings(30), 0);
        due("told elsewhere, behind a pair", withPattern("106?????????").fillings(30), 0);
        due("two pairs", withPattern("0??1????????").fillings(30), 24 * 16);
        due("two pairs, both RI1", withPattern("0?????????2?").fillings(37), 24 * 16);
        due("eleven told", withPattern("0123456789t?").fillings(0), 1);
        due("ten holes", withPattern("0??????????1").fillings(0), 3628800);
        refused("fillings", x::fillings, 48, RowForms.UNKNOWN);
        due("the pattern behind fillings", pattern(x), "????????????");
    }

    private static void promise20Filling() {
        sentence("promise 20, filling");
        RowForms x = new RowForms();
        due("all holes, P0", filling(x, 0), "0123456789te");
        due("all holes, R6", filling(x, 30), "012345et9876");
        due("all holes, RI1", filling(x, 37), "023456789te1");
        due("all holes, RI11", filling(x, 47), "0123456789te");
        due("all holes, P1", filling(x, 1), "????????????");
        due("all holes, I0", filling(x, 12), "????????????");
        due("all holes, R0", filling(x, 24), "????????????");
        due("all holes, RI0", filling(x, 36), "????????????");
        due("some told, P0", filling(withPattern("?5??0??t????"), 0), "1523046t789e");
        due("the first told, P0", filling(withPattern("1???????????"), 0), "1023456789te");
        due("the first told, R6", filling(withPattern("1???????????"), 30), "102345et9867");
        due("some told, R6", filling(withPattern("???????????0"), 30), "612345et9870");
        due("at odds", filling(withPattern("06??????????"), 30), "????????????");
        due("all told", filling(withPattern(BERG), 0), BERG);
        RowForms y = withPattern("06??????????");
        refused("filling by a form", f -> x.filling(f, 0), 48, RowForms.UNKNOWN);
        refused("filling at a place", p -> x.filling(0, p), 12, RowForms.OUTSIDE);
        refused("filling at a place of none", p -> y.filling(30, p), 12, RowForms.OUTSIDE);
        refused("filling, both wrong", p -> x.filling(48, p), 12, RowForms.UNKNOWN);
        due("the pattern behind filling", pattern(y), "06??????????");
    }

    private static void promise21Sign() {
        sentence("promise 21, sign");
        RowForms x = withRow(BERG);
        due("P0", written(x, 0), "P0:" + BERG);
        due("P10", written(x, 10), "P10:745623198et0");
        due("I3", written(x, 15), "I3:6987et045231");
        due("R3", written(x, 27), "R3:53412687et90");
        due("RI3", written(x, 39), "RI3:132540te7896");
        due("RI11", written(x, 47).substring(0, 5), "RI11:");
        due("signs of P9", x.sign(0, 9, -1), 15);
        due("signs of P10", x.sign(0, 10, -1), 16);
        due("signs of RI11", x.sign(0, 47, -1), 17);
        due("the last one", x.sign(0, 0, 14), '2');
        due("behind the last one", x.sign(0, 0, 15), RowForms.NONE);
        due("the last one of RI11", x.sign(0, 47, 16) >= '0' ? 1 : 0, 1);
        due("behind the last one of RI11", x.sign(0, 47, 17), RowForms.NONE);
        for (int j : new int[] {-2, Integer.MIN_VALUE, 100, Integer.MAX_VALUE}) {
            due("sign, j " + j, x.sign(0, 0, j), RowForms.NONE);
        }
        refused("sign of a row", r -> x.sign(r, 0, -1), 4, RowForms.UNKNOWN);
        refused("sign of a form", f -> x.sign(0, f, -1), 48, RowForms.UNKNOWN);
        due("another row", x.sign(1, 0, 14), 'e');
    }

    private static void promise22Image() {
        sentence("promise 22, image");
        RowForms x = new RowForms();
        refused("image", x::image, 2, RowForms.OUTSIDE);
        due("no image behind refusals", x.restore(0), RowForms.STATE);
        loadRow(x, 2, BERG);
        due("image(1)", x.image(1), 1);
        due("image 0 is not kept", x.restore(0), RowForms.STATE);
        due("image(0)", x.image(0), 1);
        x.turn(2, 1, 2);
        due("image(0) again", x.image(0), 1);
        String moved = row(x, 2);
        due("restore(1)", x.restore(1), 1);
        due("the row of image 1", row(x, 2), BERG);
        due("restore(0)", x.restore(0), 1);
        due("the row of image 0", row(x, 2), moved);
    }

    private static void promise23Restore() {
        sentence("promise 23, restore");
        RowForms x = withPattern("0??????????1");
        refused("restore", x::restore, 2, RowForms.OUTSIDE);
        for (int r = 0; r < 4; r++) {
            x.turn(r, r + 1, r);
        }
        x.image(0);
        for (int r = 0; r < 4; r++) {
            x.turn(r, 24, r);
        }
        tell(x, "????????????");
        x.punch();
        tell(x, "P1");
        for (int time = 0; time < 2; time++) {
            due("restore", x.restore(0), 1);
            due("row 0", row(x, 0), "123456789te0");
            due("row 3", row(x, 3), "456789te0123");
            due("the pattern", pattern(x), "0??????????1");
            due("the pad stays", x.told(0), 2);
            x.turn(1, 5, 0);
            x.turn(1, 5, 3);
        }
        due("image 1 was not kept", x.restore(1), RowForms.STATE);
    }

    private static void promise24Told() {
        sentence("promise 24, told");
        RowForms x = new RowForms();
        tell(x, "?t?????????e");
        due("signs", x.told(0), 12);
        x.punch();
        due("signs behind punch", x.told(0), 0);
        due("holes", x.told(1), 10);
        due("a hole", x.told(100), RowForms.NONE);
        due("a told tone", x.told(101), 10);
        due("the last told tone", x.told(111), 11);
        for (int r = 0; r < 4; r++) {
            due("the least row like " + r, x.told(200 + r), 0);
        }
        x.turn(0, 1, 0);
        x.turn(0, 0, 2);
        int[] least = {0, 1, 0, 1};
        for (int r = 0; r < 4; r++) {
            due("the least row like " + r, x.told(200 + r), least[r]);
        }
        x.turn(0, 2, 3);
        due("a row like no other", x.told(203), 3);
        refused("told", x::told, 1000, RowForms.OUTSIDE);
        for (int what : new int[] {2, 3, 99, 112, 199, 204, 300, 1 << 31 | 100}) {
            due("told(" + what + ")", x.told(what), RowForms.OUTSIDE);
        }
    }
}
