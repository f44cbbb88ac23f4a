import java.util.Set;
import java.util.TreeSet;

/** 'Terms', 2: FORMS behind one another, BACK, the CANON, SIZE, and FORMS that KEEP or LEAD. */
public final class RowFormsGroup extends Due {
    private static final int NONE = RowForms.NONE;
    /** Rows that a form besides P0 keeps: R6, or RI of an odd number. */
    private static final String[] KEPT = {"967845et2103", "0123456789te", "023456789te1"};
    private static final int[] KEEPER = {30, 47, 37};

    public static void main(String[] args) {
        behindWrapsAround();
        behindIsFirstGThenF();
        backWrapsAround();
        backLeavesAllAsItWas();
        theCanonIsTheLeast();
        theCanonIsThatOfAllForms();
        theCanonIsFoundAtLatePlaces();
        theLeastFormOfTwo();
        sizeAtItsGreatest();
        sizeAtItsLeast();
        aRowLedToItself();
        aRowLedToAnother();
        noFormLeads();
        end();
    }

    private static void behindWrapsAround() {
        sentence("FORMS behind one another, where numbers wrap around");
        int[][] cases = {{11, 1, 0}, {1, 11, 0}, {11, 11, 10}, {6, 6, 0}, {0, 0, 0}, {12, 1, 23}, {1, 12, 13},
            {11, 23, 22}, {23, 11, 12}, {12, 12, 0}, {12, 23, 1}, {23, 12, 11}, {35, 35, 10}, {24, 24, 0},
            {25, 35, 0}, {47, 47, 0}, {36, 47, 1}, {47, 36, 11}, {36, 25, 23}, {25, 36, 13}, {47, 0, 47}, {0, 47, 47},
            {24, 23, 47}, {23, 24, 47}, {24, 47, 23}, {12, 35, 37}, {35, 12, 47}};
        Asked x = new Asked();
        for (int[] one : cases) {
            due(x, "behind " + one[0] + " " + one[1], one[2]);
        }
    }

    private static void behindIsFirstGThenF() {
        sentence("f behind g does what g does, and then what f does");
        for (int f = 0; f < 48; f++) {
            Asked x = new Asked();
            for (int g = 0; g < 48; g++) {
                int both = x.ask("behind " + f + " " + g);
                due("behind " + f + " " + g + ", done", Signs.form(Signs.BERG, both),
                    Signs.form(Signs.form(Signs.BERG, g), f));
            }
        }
    }

    private static void backWrapsAround() {
        sentence("BACK, where numbers wrap around");
        int[][] cases = {{0, 0}, {1, 11}, {6, 6}, {11, 1}, {12, 12}, {13, 13}, {23, 23}, {24, 24}, {25, 35}, {30, 30},
            {35, 25}, {36, 36}, {47, 47}};
        for (int[] one : cases) {
            due(new Asked(), "back " + one[0], one[1]);
        }
    }

    private static void backLeavesAllAsItWas() {
        sentence("by BACK, behind it, all is as it was");
        for (int form = 0; form < 48; form++) {
            Asked x = Asked.withRow(Signs.WEBERN);
            int back = x.ask("back " + form);
            due(x, "behind " + back + " " + form, 0);
            due(x, "behind " + form + " " + back, 0);
            x.ask("turn 0 " + form + " 0");
            x.ask("turn 0 " + back + " 0");
            due("the row behind " + form + " and BACK", x.row(0), Signs.WEBERN);
        }
    }

    private static void theCanonIsTheLeast() {
        sentence("the CANON is the least of the 48 FORMS, by TONES from place 0 on");
        String[] rows = {Signs.RISING, "et9876543210", Signs.BERG, Signs.WEBERN, "0e1t29384756", "te0123456789",
            "0246813579te", "9te123456780", "5t4931860e27"};
        for (String row : rows) {
            Asked x = Asked.withRow(row);
            String least = Signs.least(row);
            due("canon of " + row, x.canon(0), least);
            due("form of " + row + " that is its canon", Signs.form(row, x.ask("canon 0 12")), least);
        }
        due("canon", Asked.withRow(Signs.WEBERN).canon(0), "019845376et2");
    }

    private static void theCanonIsThatOfAllForms() {
        sentence("the CANON is the same for all of one class");
        for (String row : new String[] {Signs.BERG, "967845et2103", "5t4931860e27"}) {
            String canon = Asked.withRow(row).canon(0);
            for (int form = 0; form < 48; form++) {
                due("canon", Asked.withRow(Signs.form(row, form)).canon(0), canon);
            }
        }
    }

    /** The first six tones of P0 and of R1 are the same ones here, and the seventh tells which is less. */
    private static void theCanonIsFoundAtLatePlaces() {
        sentence("the CANON, if two FORMS begin with the same six TONES");
        String row = "02468t97531e";
        due("R1", Signs.form(row, 25), "02468te97531");
        for (int form = 0; form < 48; form++) {
            Asked x = Asked.withRow(Signs.form(row, form));
            due("canon", x.canon(0), row);
            due("its form", x.ask("canon 0 12"), x.ask("back " + form));
        }
    }

    private static void theLeastFormOfTwo() {
        sentence("the least FORM by which the ROW becomes its CANON");
        String canon = Asked.withRow(Signs.WEBERN).canon(0);
        for (int form = 0; form < 48; form++) {
            Asked x = Asked.withRow(Signs.form(canon, form));
            due(x, "canon 0 12", x.ask("back " + form));
        }
        for (int k = 0; k < KEPT.length; k++) {
            String least = Signs.least(KEPT[k]);
            for (int form = 0; form < 48; form++) {
                String row = Signs.form(least, form);
                int first = 0;
                while (!Signs.form(row, first).equals(least)) {
                    first++;
                }
                due("the form of " + row, Asked.withRow(row).ask("canon 0 12"), first);
            }
        }
    }

    private static int unlikeForms(String row) {
        Set<String> forms = new TreeSet<>();
        for (int form = 0; form < 48; form++) {
            forms.add(Signs.form(row, form));
        }
        return forms.size();
    }

    private static void sizeAtItsGreatest() {
        sentence("SIZE at its greatest: 48");
        for (String row : new String[] {Signs.BERG, Signs.WEBERN, "102345678te9", "0123456789et", "02468t97531e"}) {
            due("unlike forms of " + row, unlikeForms(row), 48);
            due("size of " + row, Asked.withRow(row).ask("canon 0 13"), 48);
        }
    }

    private static void sizeAtItsLeast() {
        sentence("SIZE at its least: 24");
        for (int form = 0; form < 48; form++) {
            String kept = Asked.withPattern(Signs.HOLES).filling(form);
            if (form != 0 && !kept.equals(Signs.HOLES)) {
                due("unlike forms of " + kept, unlikeForms(kept), 24);
                due("size of " + kept, Asked.withRow(kept).ask("canon 0 13"), 24);
            }
        }
        for (String row : KEPT) {
            due("size of " + row, Asked.withRow(row).ask("canon 0 13"), 24);
        }
    }

    private static void aRowLedToItself() {
        sentence("from a ROW to itself: those that KEEP it");
        for (int k = 0; k < KEPT.length; k++) {
            Asked x = new Asked("tell " + KEPT[k], "load 3");
            due(x, "leads 3 3 -1", 2);
            due(x, "leads 3 3 0", 0);
            due(x, "leads 3 3 1", KEEPER[k]);
            due(x, "leads 3 3 2", NONE);
        }
        Asked y = Asked.withRow(Signs.BERG);
        due(y, "leads 0 0 -1", 1);
        due(y, "leads 0 0 0", 0);
        due(y, "leads 0 0 1", NONE);
    }

    private static void aRowLedToAnother() {
        sentence("FORMS that LEAD from one ROW to another one, rising");
        for (int form = 0; form < 48; form++) {
            Asked x = Asked.withRow(Signs.BERG);
            x.ask("turn 0 " + form + " 3");
            due(x, "leads 0 3 -1", 1);
            due(x, "leads 0 3 0", form);
            due(x, "leads 0 3 1", NONE);
            due(x, "leads 3 0 0", x.ask("back " + form));
            Asked y = Asked.withRow(KEPT[0]);
            y.ask("turn 0 " + form + " 2");
            int other = y.ask("behind " + form + " " + KEEPER[0]);
            due(y, "leads 0 2 -1", 2);
            due(y, "leads 0 2 0", Math.min(form, other));
            due(y, "leads 0 2 1", Math.max(form, other));
            due(y, "leads 0 2 2", NONE);
        }
    }

    private static void noFormLeads() {
        sentence("no FORM LEADs from one ROW to another one");
        Asked x = new Asked("tell " + Signs.BERG, "load 1");
        for (int[] rows : new int[][] {{0, 1}, {1, 0}, {3, 1}}) {
            due(x, "leads " + rows[0] + " " + rows[1] + " -1", 0);
            due(x, "leads " + rows[0] + " " + rows[1] + " 0", NONE);
            due(x, "leads " + rows[0] + " " + rows[1] + " 1", NONE);
        }
        for (int i : new int[] {-2, -3, -48, Integer.MIN_VALUE, 2, 47, 48, Integer.MAX_VALUE}) {
            due(x, "leads 0 0 " + i, NONE);
            due(x, "leads 0 1 " + i, NONE);
        }
    }
}
