/** 'What it is': an object is used for at most 512 calls, and all of them are answered as due. */
public final class RowFormsLongRuns extends Due {
    private static final int CALLS = 512;
    /** Each line is asked until the object has been used up, and answers the same each time. */
    private static final String[] SAME = {"fault 0=0", "fault 3=-2", "load 0=-5", "load 4=-1", "punch=-5", "named=-5",
        "wipe=0", "say 32=-2", "tone 0 11=11", "tone 3 12=-2", "turn 0 0 3=1", "turn 0 48 3=-1", "behind 47 25=22",
        "back 35=25", "canon 0 13=24", "canon 3 12=0", "leads 0 1 -1=2", "leads 0 1 1=47", "leads 0 1 2=-6",
        "step 0 11=1", "shared 0 1 2=10", "partner 0 -1=4", "partner 0 3=41", "derived 0 4=1", "making 0 3 -1 0=48",
        "making 0 3 47 11=3", "making 0 4 7 4=11", "making 0 3 48 0=-6", "fillings 0=479001600", "fillings 30=46080",
        "filling 30 11=6", "filling 24 0=-6", "sign 0 47 -1=17", "sign 0 47 16=101", "image 0=1", "restore 1=-3",
        "restore 2=-2", "told 0=0", "told 111=-6", "told 203=0"};

    public static void main(String[] args) {
        theSameCall512Times();
        aPadThatIsFull();
        signsThatComeAndGo();
        rowsThatMove();
        rowsThatAreLoaded();
        patternsThatArePunched();
        imagesThatComeAndGo();
        end();
    }

    private static void usedUp(Asked x) {
        due("calls of the run", x.calls(), CALLS);
    }

    private static void theSameCall512Times() {
        sentence("512 calls, all the same");
        for (String line : SAME) {
            String[] parts = line.split("=");
            Asked x = new Asked();
            while (x.calls() < CALLS) {
                due(x, parts[0], Integer.parseInt(parts[1]));
            }
            usedUp(x);
        }
    }

    private static void aPadThatIsFull() {
        sentence("512 signs, said to one PAD");
        Asked x = new Asked();
        for (int call = 1; call <= CALLS; call++) {
            due(x, "say " + (33 + call % 94), call <= 20 ? call : RowForms.FULL);
        }
        usedUp(x);
    }

    private static void signsThatComeAndGo() {
        sentence("512 calls, signs said and wiped");
        Asked x = new Asked();
        for (int round = 0; round < 64; round++) {
            due(x, "tell P11", 3);
            due(x, "named", 11);
            due(x, "fault 2", RowForms.NONE);
            due(x, "fault 1", 0);
            due(x, "told 0", 3);
            due(x, "wipe", 3);
        }
        usedUp(x);
    }

    private static void rowsThatMove() {
        sentence("512 calls, a ROW moved ever on");
        Asked x = new Asked();
        for (int round = 1; round <= 256; round++) {
            due(x, "turn 3 7 3", 1);
            due(x, "tone 3 5", (5 + 7 * round) % 12);
        }
        usedUp(x);
    }

    private static void rowsThatAreLoaded() {
        sentence("512 calls, ROWS loaded one behind another");
        Asked x = new Asked("wipe", "wipe", "wipe", "wipe", "wipe", "wipe", "wipe", "wipe");
        for (int round = 0; round < 36; round++) {
            String row = Signs.form(Signs.BERG, round);
            due(x, "tell " + row, 12);
            due(x, "load " + round % 4, 1);
            due(x, "tone " + round % 4 + " 11", Signs.tone(row.charAt(11)));
        }
        usedUp(x);
    }

    private static void patternsThatArePunched() {
        sentence("512 calls, PATTERNS punched one behind another");
        Asked x = new Asked("wipe", "wipe", "wipe", "wipe", "wipe", "wipe", "wipe", "wipe");
        for (int round = 0; round < 36; round++) {
            int holes = round % 13;
            due(x, "tell " + Signs.BERG.substring(holes) + Signs.HOLES.substring(0, holes), 12);
            due(x, "punch", holes);
            due(x, "told 1", holes);
        }
        usedUp(x);
    }

    private static void imagesThatComeAndGo() {
        sentence("512 calls, IMAGES kept and restored");
        Asked x = new Asked();
        for (int round = 0; round < 128; round++) {
            due(x, "image " + round % 2, 1);
            due(x, "turn 0 1 0", 1);
            due(x, "restore " + round % 2, 1);
            due(x, "tone 0 0", 0);
        }
        usedUp(x);
    }
}
