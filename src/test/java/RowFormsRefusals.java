import java.util.ArrayList;
import java.util.List;

/** 'Terms', the first paragraph: which refusal is answered if two fit, and that refused calls change nothing. */
public final class RowFormsRefusals extends Due {
    private static final int UNKNOWN = RowForms.UNKNOWN, OUTSIDE = RowForms.OUTSIDE, STATE = RowForms.STATE;
    private static final int FULL = RowForms.FULL, NO = RowForms.NO, NONE = RowForms.NONE;
    private static final String TWENTY = "0123456789te!!!!!!!!";
    private static final String AT_ODDS = "06??????????";

    private static final String[] UNKNOWN_AND_OUTSIDE = {
        "tone -1 -1", "tone 4 12", "canon -1 -1", "canon 4 14", "step -1 -1", "step 4 12", "shared 4 0 7",
        "shared -1 0 1", "shared 0 48 7", "shared 0 -1 1", "derived 4 5", "derived -1 0", "making 4 5 0 0",
        "making 4 3 0 12", "making 4 3 -1 1", "making -1 2 -1 -1", "filling 48 12", "filling -1 -1"};
    private static final String[] MORE_THAN_ONE_UNKNOWN = {
        "turn 4 48 4", "turn -1 -1 0", "turn -1 0 -1", "turn 0 48 4", "behind 48 48", "behind -1 -1", "leads 4 4 -1",
        "leads -1 -1 0", "shared 4 48 2", "shared -1 -1 6", "sign 4 48 -1", "sign -1 -1 0"};
    private static final String[] UNKNOWN_ALONE = {
        "load 4", "load -1", "tone 4 0", "tone -1 0", "turn 4 1 0", "turn -1 1 0", "turn 0 48 1", "turn 0 -1 1",
        "turn 0 1 4", "turn 0 1 -1", "behind 48 0", "behind -1 0", "behind 0 48", "behind 0 -1", "back 48", "back -1",
        "canon 4 0", "canon -1 13", "leads 4 0 -1", "leads -1 0 0", "leads 0 4 -1", "leads 0 -1 0", "step 4 0",
        "step -1 11", "shared 4 0 2", "shared -1 0 2", "shared 0 48 6", "shared 0 -1 6", "partner 4 -1",
        "partner -1 0", "derived 4 2", "derived -1 6", "making 4 3 -1 0", "making -1 4 0 11", "fillings 48",
        "fillings -1", "filling 48 0", "filling -1 11", "sign 4 0 -1", "sign -1 0 0", "sign 0 48 -1", "sign 0 -1 0"};
    private static final String[] OUTSIDE_ALONE = {
        "say 32", "say 127", "say -1", "fault -1", "fault 3", "tone 0 -1", "tone 0 12", "canon 0 -1", "canon 0 14",
        "step 0 -1", "step 0 12", "shared 0 0 1", "shared 0 0 7", "derived 0 1", "derived 0 5", "derived 0 7",
        "making 0 2 -1 0", "making 0 5 0 0", "making 0 3 0 -1", "making 0 4 0 12", "making 0 3 -1 1",
        "making 0 3 -1 -1", "filling 0 -1", "filling 0 12", "image -1", "image 2", "restore -1", "restore 2",
        "told -1", "told 2", "told 99", "told 112", "told 199", "told 204"};
    /** Calls that only tell something, or that there is none. */
    private static final String[] QUESTIONS = {
        "fault 0", "fault 1", "fault 2", "named", "tone 0 0", "tone 3 11", "behind 47 25", "back 47", "canon 1 0",
        "canon 1 12", "canon 1 13", "leads 0 1 -1", "leads 0 1 0", "leads 2 2 47", "step 1 0", "step 1 11",
        "shared 1 47 2", "shared 0 30 6", "partner 1 -1", "partner 1 0", "partner 1 48", "derived 0 2", "derived 1 3",
        "making 1 3 -1 0", "making 1 4 0 11", "making 1 3 5000 5", "fillings 0", "fillings 30", "fillings 47",
        "filling 0 0", "filling 30 11", "filling 12 0", "sign 1 47 -1", "sign 1 47 16", "sign 1 47 17", "told 0",
        "told 1", "told 100", "told 203"};

    public static void main(String[] args) {
        unknownIsFirst();
        outsideIsAheadOfStateAndFull();
        refusalsAreAheadOfNone();
        eachStateKeepsAll();
        questionsChangeNothing();
        aSaidSignChangesTheFault();
        aRefusedSignDoesNot();
        end();
    }

    private static void eachAnswers(Asked x, String[] lines, int want) {
        for (String line : lines) {
            due(x, line, want);
        }
    }

    private static void unknownIsFirst() {
        sentence("UNKNOWN, if OUTSIDE fits, too");
        eachAnswers(new Asked(), UNKNOWN_AND_OUTSIDE, UNKNOWN);
        sentence("UNKNOWN, if more than one number is");
        eachAnswers(new Asked(), MORE_THAN_ONE_UNKNOWN, UNKNOWN);
        sentence("UNKNOWN, if NO fits, too");
        for (String signs : new String[] {"", "0", "0123456789t?", TWENTY}) {
            Asked x = new Asked("tell " + signs);
            eachAnswers(x, new String[] {"load -1", "load 4"}, UNKNOWN);
            due(x, "load 0", NO);
        }
    }

    private static void outsideIsAheadOfStateAndFull() {
        sentence("OUTSIDE, if STATE fits, too");
        Asked x = new Asked("tell " + TWENTY);
        eachAnswers(x, new String[] {"restore -1", "restore 2"}, OUTSIDE);
        eachAnswers(x, new String[] {"restore 0", "restore 1"}, STATE);
        sentence("OUTSIDE, if FULL fits, too");
        eachAnswers(x, new String[] {"say 32", "say 127", "say -1", "say 0"}, OUTSIDE);
        eachAnswers(x, new String[] {"say 33", "say 126"}, FULL);
    }

    private static void refusalsAreAheadOfNone() {
        sentence("UNKNOWN, if there is none, too");
        Asked x = Asked.withPattern(AT_ODDS);
        eachAnswers(x, new String[] {"leads 4 0 48", "leads 0 4 48", "partner 4 48", "making 4 3 48 0",
            "filling 48 0", "sign 4 0 15", "sign 0 48 15", "leads 4 0 -2", "partner 4 -2", "sign 4 0 -2"}, UNKNOWN);
        sentence("OUTSIDE, if there is none, too");
        eachAnswers(x, new String[] {"making 0 5 48 0", "making 0 3 48 12", "making 0 3 48 -1", "making 0 3 -2 12",
            "filling 30 12", "filling 30 -1", "filling 1 12"}, OUTSIDE);
        eachAnswers(x, new String[] {"making 0 3 48 11", "filling 30 11", "filling 1 0"}, NONE);
    }

    /** States, each with the calls that are refused in it alone. */
    private static void eachStateKeepsAll() {
        sentence("refused calls change nothing");
        String[] empty = {};
        changesNothing(empty, "load 0=-5", "punch=-5", "named=-5", "restore 0=-3", "restore 1=-3");
        String[] busy = {"tell " + Signs.BERG, "load 1", "turn 1 41 2", "image 1", "tell " + AT_ODDS, "punch",
            "turn 1 3 0", "tell 01?"};
        changesNothing(busy, "load 1=-5", "punch=-5", "named=-5", "restore 0=-3");
        String[] full = {"tell " + Signs.WEBERN, "load 3", "image 0", "turn 3 1 3", "image 1", "turn 3 24 3",
            "tell " + TWENTY};
        changesNothing(full, "say 33=-4", "say 126=-4", "load 3=-5", "punch=-5", "named=-5");
        changesNothing(new String[] {"image 0", "tell " + Signs.BERG}, "named=-5", "restore 1=-3");
        changesNothing(new String[] {"tell 0??????????1", "punch", "image 1", "tell ?5??0??t????"}, "load 0=-5",
            "named=-5", "restore 0=-3");
        changesNothing(new String[] {"tell RI11"}, "load 3=-5", "punch=-5");
    }

    private static void changesNothing(String[] state, String... refusedHere) {
        for (String line : UNKNOWN_ALONE) {
            leavesAll(state, line, UNKNOWN);
        }
        for (String line : UNKNOWN_AND_OUTSIDE) {
            leavesAll(state, line, UNKNOWN);
        }
        for (String line : MORE_THAN_ONE_UNKNOWN) {
            leavesAll(state, line, UNKNOWN);
        }
        for (String line : OUTSIDE_ALONE) {
            leavesAll(state, line, OUTSIDE);
        }
        for (String line : refusedHere) {
            String[] parts = line.split("=");
            leavesAll(state, parts[0], Integer.parseInt(parts[1]));
        }
    }

    private static void questionsChangeNothing() {
        sentence("calls that only tell change nothing");
        String[] state = {"tell " + Signs.WEBERN, "load 1", "turn 1 41 2", "image 0", "tell 0??????????6", "punch",
            "turn 1 24 0", "image 1", "turn 1 2 3", "tell RI1"};
        for (String line : QUESTIONS) {
            leavesAll(state, line, new Asked(state).ask(line));
        }
    }

    /** Whether an object that was asked, too, tells just what one tells that was not, by all ways to look at it. */
    private static void leavesAll(String[] state, String line, int want) {
        String[][] looks = {{}, {"load 3"}, {"punch"}, {"wipe"}, {"say 48"}, {"restore 0"}, {"restore 1"},
            {"wipe", "tell " + Signs.RISING, "punch", "restore 1"}};
        for (String[] look : looks) {
            Asked quiet = new Asked(state);
            Asked asked = new Asked(state);
            due(asked, line, want);
            for (String step : look) {
                due(step + " behind " + line, asked.ask(step), quiet.ask(step));
            }
            due("all that is told behind " + line, allTold(asked), allTold(quiet));
        }
    }

    private static String allTold(Asked x) {
        List<String> all = new ArrayList<>();
        for (int row = 0; row < 4; row++) {
            all.add(x.row(row));
            all.add("like " + x.ask("told " + (200 + row)));
            all.add("leads " + x.ask("leads 0 " + row + " 0"));
        }
        all.add(x.pattern());
        for (String line : new String[] {"told 0", "told 1", "fault 0", "fault 1", "fault 2", "named", "fillings 0",
            "fillings 30", "filling 30 5", "canon 0 12", "canon 3 13", "partner 2 -1", "making 0 3 -1 0",
            "sign 3 47 16"}) {
            all.add(line + " " + x.ask(line));
        }
        return String.join(", ", all);
    }

    private static void aSaidSignChangesTheFault() {
        sentence("a sign that is said changes what fault() tells");
        Asked x = new Asked();
        for (int place = 0; place < 12; place++) {
            due(x, "fault 0", place);
            due(x, "fault 1", place);
            x.ask("say " + (int) Signs.TONES.charAt(place));
        }
        eachAnswers(x, new String[] {"fault 0", "fault 1"}, NONE);
        x.ask("say 33");
        eachAnswers(x, new String[] {"fault 0", "fault 1"}, 12);
        Asked y = new Asked();
        int[] faults = {0, 1, 2, NONE, NONE, 4};
        for (int many = 0; many < faults.length; many++) {
            due(y, "fault 2", faults[many]);
            y.ask("say " + (int) "RI1111".charAt(many));
        }
    }

    private static void aRefusedSignDoesNot() {
        sentence("a sign that is refused does not change what fault() tells");
        Asked x = new Asked("tell " + Signs.RISING);
        eachAnswers(x, new String[] {"say 32", "say 127"}, OUTSIDE);
        eachAnswers(x, new String[] {"fault 0", "fault 1"}, NONE);
        Asked full = new Asked("tell " + TWENTY);
        due(full, "say 48", FULL);
        due(full, "fault 0", 12);
        Asked form = new Asked("tell P1");
        due(form, "say 127", OUTSIDE);
        due(form, "named", 1);
    }
}
