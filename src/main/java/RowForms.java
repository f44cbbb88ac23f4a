/** Rows of all twelve tones and their forty-eight forms; every method stands in the document as a promise. */
public final class RowForms {
    public static final int UNKNOWN = -1, OUTSIDE = -2, STATE = -3, FULL = -4, NO = -5, NONE = -6;

    private static final int TONES = 12;
    private static final int LAST_PLACE = 11;
    private static final int ROWS = 4;
    private static final int FORMS = 48;
    private static final int STEPS = 11;
    private static final int HEXACHORD = 6;
    private static final int IMAGES = 2;
    private static final int CANON_FORM = 12;
    private static final int CANON_SIZE = 13;
    private static final int UNLIKE_STEPS = 11;
    private static final int TOLD_PLACE = 100;
    private static final int TOLD_ROW = 200;

    private final Pad pad;
    private final Store now;
    private final Store[] images;
    private final Segments segments;
    private final int[] scratch;

    public RowForms() {
        pad = new Pad();
        now = new Store();
        images = new Store[IMAGES];
        for (int k = 0; k < IMAGES; k++) {
            images[k] = new Store();
        }
        segments = new Segments();
        scratch = new int[TONES];
    }

    // ---- 1 told

    public int say(int sign) {
        if (sign < Pad.LEAST_CODE || sign > Pad.GREATEST_CODE) {
            return OUTSIDE;
        }
        return pad.isFull() ? FULL : pad.add(sign);
    }

    public int wipe() {
        return pad.empty();
    }

    public int fault(int as) {
        switch (as) {
            case 0:
                return pad.rowFault(false);
            case 1:
                return pad.rowFault(true);
            case 2:
                return pad.formFault();
            default:
                return OUTSIDE;
        }
    }

    public int load(int row) {
        if (!isRow(row)) {
            return UNKNOWN;
        }
        if (pad.rowFault(false) != NONE) {
            return NO;
        }
        pad.copyTones(now.rows[row]);
        pad.empty();
        return 1;
    }

    public int punch() {
        if (pad.rowFault(true) != NONE) {
            return NO;
        }
        pad.copyTones(now.pattern);
        pad.empty();
        return holesOf(now.pattern);
    }

    public int named() {
        return pad.formFault() == NONE ? pad.formNumber() : NO;
    }

    public int tone(int row, int place) {
        if (!isRow(row)) {
            return UNKNOWN;
        }
        return isPlace(place) ? now.rows[row][place] : OUTSIDE;
    }

    // ---- 2 forms

    public int turn(int row, int form, int to) {
        if (!isRow(row) || !isForm(form) || !isRow(to)) {
            return UNKNOWN;
        }
        // By way of the scratch row, for a row may become a form of itself.
        for (int place = 0; place < TONES; place++) {
            scratch[place] = formTone(now.rows[row], TONES, form, place);
        }
        System.arraycopy(scratch, 0, now.rows[to], 0, TONES);
        return 1;
    }

    public int behind(int f, int g) {
        if (!isForm(f) || !isForm(g)) {
            return UNKNOWN;
        }
        // g's number is where tone 0 goes first, and f takes it from there; mirrors, and backward readings, cancel
        // in pairs.
        return (f / TONES ^ g / TONES) * TONES + turnedTone(g % TONES, f);
    }

    public int back(int form) {
        if (!isForm(form)) {
            return UNKNOWN;
        }
        if (isMirrored(form)) {
            return form;
        }
        return form - form % TONES + wrapped(-form);
    }

    public int canon(int row, int what) {
        if (!isRow(row)) {
            return UNKNOWN;
        }
        if (what < 0 || what > CANON_SIZE) {
            return OUTSIDE;
        }
        int[] from = now.rows[row];
        if (what == CANON_SIZE) {
            return sizeOf(from);
        }
        int least = leastForm(from);
        return what == CANON_FORM ? least : formTone(from, TONES, least, what);
    }

    public int leads(int row, int other, int i) {
        if (!isRow(row) || !isRow(other)) {
            return UNKNOWN;
        }
        int many = 0;
        for (int form = 0; form < FORMS; form++) {
            if (isFormOf(now.rows[row], TONES, form, now.rows[other], 0)) {
                if (many == i) {
                    return form;
                }
                many++;
            }
        }
        return i == -1 ? many : NONE;
    }

    // ---- 3 what stands beside each other

    public int step(int row, int what) {
        if (!isRow(row)) {
            return UNKNOWN;
        }
        if (what < 0 || what > UNLIKE_STEPS) {
            return OUTSIDE;
        }
        int[] from = now.rows[row];
        return what == UNLIKE_STEPS ? unlikeSteps(from) : stepAt(from, what);
    }

    public int shared(int row, int form, int n) {
        if (!isRow(row) || !isForm(form)) {
            return UNKNOWN;
        }
        if (n < 2 || n > HEXACHORD) {
            return OUTSIDE;
        }
        int many = 0;
        for (int start = 0; start + n <= TONES; start++) {
            if (hasSegment(now.rows[row], form, n, formSet(now.rows[row], 0, start, n))) {
                many++;
            }
        }
        return many;
    }

    public int partner(int row, int i) {
        if (!isRow(row)) {
            return UNKNOWN;
        }
        int begin = formSet(now.rows[row], 0, 0, HEXACHORD);
        int many = 0;
        for (int form = 0; form < FORMS; form++) {
            if ((formSet(now.rows[row], form, 0, HEXACHORD) & begin) == 0) {
                if (many == i) {
                    return form;
                }
                many++;
            }
        }
        return i == -1 ? many : NONE;
    }

    public int derived(int row, int n) {
        if (!isRow(row)) {
            return UNKNOWN;
        }
        if (n != 2 && n != 3 && n != 4 && n != 6) {
            return OUTSIDE;
        }
        for (int start = n; start + n <= TONES; start += n) {
            if (!isAnyFormOf(now.rows[row], n, start)) {
                return 0;
            }
        }
        return 1;
    }

    public int making(int row, int n, int i, int place) {
        if (!isRow(row)) {
            return UNKNOWN;
        }
        if (n != 3 && n != 4 || !isPlace(place) || i == -1 && place != 0) {
            return OUTSIDE;
        }
        segments.gather(now.rows[row], n);
        int many = segments.countRows();
        if (i == -1) {
            return many;
        }
        if (i < 0 || i >= many) {
            return NONE;
        }
        return place < n ? now.rows[row][place] : segments.toneOfRow(i, place);
    }

    // ---- 4 holes, signs

    public int fillings(int form) {
        if (!isForm(form)) {
            return UNKNOWN;
        }
        if (!canKeepRows(form) || !fillForced(now.pattern, form, scratch)) {
            return 0;
        }
        int free = holesOf(scratch);
        // Read backwards, a free hole is told by the one across from it: pairs of tones go to pairs of places, and
        // each either way round.
        return isBackwards(form) ? factorial(free / 2) << free / 2 : factorial(free);
    }

    public int filling(int form, int place) {
        if (!isForm(form)) {
            return UNKNOWN;
        }
        if (!isPlace(place)) {
            return OUTSIDE;
        }
        if (!canKeepRows(form) || !fillForced(now.pattern, form, scratch)) {
            return NONE;
        }
        fillFree(scratch, form);
        return scratch[place];
    }

    public int sign(int row, int form, int j) {
        if (!isRow(row) || !isForm(form)) {
            return UNKNOWN;
        }
        int name = nameLength(form);
        if (j == -1) {
            return name + 1 + TONES;
        }
        if (j < 0 || j > name + TONES) {
            return NONE;
        }
        if (j < name) {
            return nameSign(form, j);
        }
        return j == name ? ':' : toneSign(formTone(now.rows[row], TONES, form, j - name - 1));
    }

    public int image(int k) {
        if (!isImage(k)) {
            return OUTSIDE;
        }
        images[k].copyFrom(now);
        images[k].kept = true;
        return 1;
    }

    public int restore(int k) {
        if (!isImage(k)) {
            return OUTSIDE;
        }
        if (!images[k].kept) {
            return STATE;
        }
        now.copyFrom(images[k]);
        return 1;
    }

    public int told(int what) {
        if (what == 0) {
            return pad.count;
        }
        if (what == 1) {
            return holesOf(now.pattern);
        }
        // The lower bound is looked at first, so that the difference can not wrap around.
        if (what >= TOLD_PLACE && isPlace(what - TOLD_PLACE)) {
            return now.pattern[what - TOLD_PLACE];
        }
        if (what >= TOLD_ROW && isRow(what - TOLD_ROW)) {
            return leastAlike(what - TOLD_ROW);
        }
        return OUTSIDE;
    }

    private int leastAlike(int row) {
        for (int other = 0; other < row; other++) {
            if (isFormOf(now.rows[row], TONES, 0, now.rows[other], 0)) {
                return other;
            }
        }
        return row;
    }

    // ---- numbers that are as told

    private static boolean isRow(int row) {
        return row >= 0 && row < ROWS;
    }

    private static boolean isForm(int form) {
        return form >= 0 && form < FORMS;
    }

    private static boolean isPlace(int place) {
        return place >= 0 && place < TONES;
    }

    private static boolean isImage(int k) {
        return k >= 0 && k < IMAGES;
    }

    // ---- forms of a row, or of its first tones

    private static boolean isMirrored(int form) {
        return (form / TONES & 1) != 0;
    }

    private static boolean isBackwards(int form) {
        return (form / TONES & 2) != 0;
    }

    private static int wrapped(int number) {
        return Math.floorMod(number, TONES);
    }

    private static int turnedTone(int tone, int form) {
        // The form itself may stand for its number, for a KIND is a multiple of 12.
        return wrapped(isMirrored(form) ? form - tone : form + tone);
    }

    /** The tone at a place of that form of the row's first n tones; the place is below n, and n at most 12. */
    private static int formTone(int[] row, int n, int form, int place) {
        return turnedTone(row[isBackwards(form) ? n - 1 - place : place], form);
    }

    /** Whether the form of the row's first n tones stands in the other row from a place on. */
    private static boolean isFormOf(int[] row, int n, int form, int[] other, int start) {
        for (int place = 0; place < n; place++) {
            if (formTone(row, n, form, place) != other[start + place]) {
                return false;
            }
        }
        return true;
    }

    private static boolean isAnyFormOf(int[] row, int n, int start) {
        for (int form = 0; form < FORMS; form++) {
            if (isFormOf(row, n, form, row, start)) {
                return true;
            }
        }
        return false;
    }

    private static int leastForm(int[] row) {
        int least = 0;
        for (int form = 1; form < FORMS; form++) {
            if (isLess(row, form, least)) {
                least = form;
            }
        }
        return least;
    }

    private static boolean isLess(int[] row, int form, int other) {
        for (int place = 0; place < TONES; place++) {
            int difference = formTone(row, TONES, form, place) - formTone(row, TONES, other, place);
            if (difference != 0) {
                return difference < 0;
            }
        }
        return false;
    }

    /** As the forms are a group, each unlike one comes as often as there are forms that keep the row. */
    private static int sizeOf(int[] row) {
        int keepers = 0;
        for (int form = 0; form < FORMS; form++) {
            if (isFormOf(row, TONES, form, row, 0)) {
                keepers++;
            }
        }
        return keepers == 0 ? FORMS : FORMS / keepers;
    }

    // ---- steps and segments

    private static int stepAt(int[] row, int i) {
        return wrapped(row[i + 1] - row[i]);
    }

    private static int unlikeSteps(int[] row) {
        int seen = 0;
        for (int i = 0; i < STEPS; i++) {
            seen |= 1 << stepAt(row, i);
        }
        return Integer.bitCount(seen);
    }

    /** The n tones from a place of that form of the row on, a bit for each. */
    private static int formSet(int[] row, int form, int start, int n) {
        int set = 0;
        for (int place = start; place < start + n; place++) {
            set |= 1 << formTone(row, TONES, form, place);
        }
        return set;
    }

    private static boolean hasSegment(int[] row, int form, int n, int set) {
        for (int start = 0; start + n <= TONES; start++) {
            if (formSet(row, form, start, n) == set) {
                return true;
            }
        }
        return false;
    }

    // ---- holes

    private static int holesOf(int[] pattern) {
        int holes = 0;
        for (int place = 0; place < TONES; place++) {
            if (pattern[place] == NONE) {
                holes++;
            }
        }
        return holes;
    }

    /**
     * A form that is not read backwards keeps a row only if it leaves each tone as it is. One that is must change
     * the tones at two places across from each other into one another, and so leave no tone as it is.
     */
    private static boolean canKeepRows(int form) {
        if (!isBackwards(form)) {
            return form == 0;
        }
        return isMirrored(form) ? form % 2 == 1 : form % TONES == TONES / 2;
    }

    private static int placeAcross(int form, int place) {
        return isBackwards(form) ? LAST_PLACE - place : place;
    }

    private static int toneBits(int[] pattern) {
        int bits = 0;
        for (int place = 0; place < TONES; place++) {
            if (pattern[place] != NONE) {
                bits |= 1 << pattern[place];
            }
        }
        return bits;
    }

    /** The pattern, with each hole filled that a told tone across from it decides; false if two tones are at odds. */
    private static boolean fillForced(int[] pattern, int form, int[] into) {
        System.arraycopy(pattern, 0, into, 0, TONES);
        int used = toneBits(pattern);
        for (int place = 0; place < TONES; place++) {
            if (pattern[place] != NONE) {
                int across = placeAcross(form, place);
                int due = turnedTone(pattern[place], form);
                if (into[across] == NONE && (used & 1 << due) == 0) {
                    into[across] = due;
                    used |= 1 << due;
                } else if (into[across] != due) {
                    return false;
                }
            }
        }
        return true;
    }

    private static void fillFree(int[] pattern, int form) {
        int used = toneBits(pattern);
        for (int place = 0; place < TONES; place++) {
            if (pattern[place] == NONE) {
                int least = Integer.numberOfTrailingZeros(~used);
                int due = turnedTone(least, form);
                pattern[place] = least;
                pattern[placeAcross(form, place)] = due;
                used |= 1 << least | 1 << due;
            }
        }
    }

    private static int factorial(int n) {
        int product = 1;
        for (int factor = 2; factor <= n; factor++) {
            product *= factor;
        }
        return product;
    }

    // ---- signs

    private static int toneSign(int tone) {
        if (tone < 10) {
            return '0' + tone;
        }
        return tone == 10 ? 't' : 'e';
    }

    private static int signTone(int sign) {
        if (sign >= '0' && sign <= '9') {
            return sign - '0';
        }
        if (sign == 't') {
            return 10;
        }
        return sign == 'e' ? 11 : NONE;
    }

    private static int kindLength(int form) {
        return isBackwards(form) && isMirrored(form) ? 2 : 1;
    }

    private static int nameLength(int form) {
        return kindLength(form) + (form % TONES < 10 ? 1 : 2);
    }

    private static int nameSign(int form, int j) {
        int kind = kindLength(form);
        if (j >= kind) {
            int number = form % TONES;
            return '0' + (j + 1 == nameLength(form) ? number % 10 : number / 10);
        }
        if (j == 0 && isBackwards(form)) {
            return 'R';
        }
        return isMirrored(form) ? 'I' : 'P';
    }

    /** What an image keeps: the shelf and the pattern. */
    private static final class Store {
        private final int[][] rows = new int[ROWS][TONES];
        private final int[] pattern = new int[TONES];
        private boolean kept = false;

        private Store() {
            for (int place = 0; place < TONES; place++) {
                pattern[place] = NONE;
                for (int row = 0; row < ROWS; row++) {
                    rows[row][place] = place;
                }
            }
        }

        private void copyFrom(Store other) {
            for (int row = 0; row < ROWS; row++) {
                System.arraycopy(other.rows[row], 0, rows[row], 0, TONES);
            }
            System.arraycopy(other.pattern, 0, pattern, 0, TONES);
        }
    }

    /** The signs that have been said, and what they tell. */
    private static final class Pad {
        private static final int LEAST_CODE = 33;
        private static final int GREATEST_CODE = 126;
        private static final int MOST_SIGNS = 20;

        private final int[] signs = new int[MOST_SIGNS];
        private int count = 0;

        private boolean isFull() {
            return count >= MOST_SIGNS;
        }

        private int add(int code) {
            if (!isFull()) {
                signs[count] = code;
                count++;
            }
            return count;
        }

        private int empty() {
            int before = count;
            count = 0;
            return before;
        }

        /** The sign at a place, or NONE, which is no code, behind the last one. */
        private int signAt(int place) {
            return place >= 0 && place < count ? signs[place] : NONE;
        }

        private int rowFault(boolean withHoles) {
            int used = 0;
            for (int place = 0; place < TONES; place++) {
                int code = signAt(place);
                if (!withHoles || code != '?') {
                    int read = signTone(code);
                    if (read == NONE || (used & 1 << read) != 0) {
                        return place;
                    }
                    used |= 1 << read;
                }
            }
            return count > TONES ? TONES : NONE;
        }

        private void copyTones(int[] into) {
            for (int place = 0; place < TONES; place++) {
                into[place] = signTone(signAt(place));
            }
        }

        private int formFault() {
            int digits = kindSigns();
            int first = signAt(digits);
            if (digits == 0 || first < '0' || first > '9') {
                return digits;
            }
            int end = digits + 1;
            int second = signAt(end);
            if (first == '1' && (second == '0' || second == '1')) {
                end++;
            }
            return count > end ? end : NONE;
        }

        /** How many of the first signs tell a KIND; 0 if they tell none. */
        private int kindSigns() {
            int first = signAt(0);
            if (first == 'R') {
                return signAt(1) == 'I' ? 2 : 1;
            }
            return first == 'P' || first == 'I' ? 1 : 0;
        }

        /** The form that is named, if there is no fault. */
        private int formNumber() {
            int digits = kindSigns();
            int kind = (signAt(0) == 'R' ? 2 : 0) + (signAt(digits - 1) == 'I' ? 1 : 0);
            int number = 0;
            for (int place = digits; place < count; place++) {
                number = number * 10 + signAt(place) - '0';
            }
            return kind * TONES + number;
        }
    }

    /** The forms of the first tones of a row that share no tone with these, and the rows that are made of them. */
    private static final class Segments {
        private static final int KEY_BITS = 4;
        private static final int KEY_MASK = 15;

        private final int[] keys = new int[FORMS];
        private final int[] sets = new int[FORMS];
        private int many = 0;
        private int width = 0;
        private int begin = 0;
        private int following = 0;

        /** Kept rising and unlike, so that the order of the rows made is that of their segments. */
        private void gather(int[] row, int n) {
            many = 0;
            width = n;
            begin = formSet(row, 0, 0, n);
            following = n > 0 ? TONES / n - 1 : 0;
            for (int form = 0; form < FORMS; form++) {
                int key = 0;
                int set = 0;
                for (int place = 0; place < n; place++) {
                    int next = formTone(row, n, form, place);
                    key = key << KEY_BITS | next;
                    set |= 1 << next;
                }
                if ((set & begin) == 0) {
                    insert(key, set);
                }
            }
        }

        private void insert(int key, int set) {
            int at = many;
            while (at > 0 && keys[at - 1] > key) {
                at--;
            }
            if (many >= FORMS || at > 0 && keys[at - 1] == key) {
                return;
            }
            for (int k = many; k > at; k--) {
                keys[k] = keys[k - 1];
                sets[k] = sets[k - 1];
            }
            keys[at] = key;
            sets[at] = set;
            many++;
        }

        private int countRows() {
            return countWays(sets, many, begin, following);
        }

        /** In how many ways so many segments more can follow, if these tones are used. */
        private static int countWays(int[] sets, int many, int used, int more) {
            if (more <= 0) {
                return 1;
            }
            int ways = 0;
            for (int k = 0; k < many; k++) {
                if ((sets[k] & used) == 0) {
                    ways += countWays(sets, many, used | sets[k], more - 1);
                }
            }
            return ways;
        }

        /** The tone at a place, behind the first segment, of the i-th row made; i is below their number. */
        private int toneOfRow(int i, int place) {
            int used = begin;
            int left = i;
            int end = width;
            for (int more = following - 1; more >= 0; more--) {
                end += width;
                int k = 0;
                for (; k < many; k++) {
                    int ways = (sets[k] & used) == 0 ? countWays(sets, many, used | sets[k], more) : 0;
                    if (left < ways) {
                        break;
                    }
                    left -= ways;
                }
                if (k >= many) {
                    return NONE;
                }
                if (place < end) {
                    return keys[k] >> (end - 1 - place) * KEY_BITS & KEY_MASK;
                }
                used |= sets[k];
            }
            return NONE;
        }
    }
}
