import java.util.function.IntUnaryOperator;

/** Rows as texts of signs, and what the document says of their forms, in the plainest way. */
final class Signs {
    static final String TONES = "0123456789te";
    static final String RISING = TONES;
    static final String HOLES = "????????????";
    static final String BERG = "9678453et102";
    static final String WEBERN = "et2376845019";
    private static final String[] KINDS = {"P", "I", "R", "RI"};

    private Signs() {
    }

    /** The signs of the tones at so many places; ? for NONE, and ! for what is no tone. */
    static String of(int places, IntUnaryOperator toneAt) {
        StringBuilder text = new StringBuilder();
        for (int place = 0; place < places; place++) {
            int tone = toneAt.applyAsInt(place);
            text.append(tone >= 0 && tone < 12 ? TONES.charAt(tone) : tone == RowForms.NONE ? '?' : '!');
        }
        return text.toString();
    }

    static int tone(char sign) {
        return TONES.indexOf(sign);
    }

    static String name(int form) {
        return KINDS[form / 12] + form % 12;
    }

    static char turned(char sign, int form) {
        int tone = form / 12 % 2 == 0 ? tone(sign) + form % 12 : form % 12 - tone(sign);
        return TONES.charAt((tone + 12) % 12);
    }

    /** That form of a row, or of some tones. */
    static String form(String signs, int form) {
        StringBuilder text = new StringBuilder();
        for (char sign : signs.toCharArray()) {
            text.append(turned(sign, form));
        }
        return (form >= 24 ? text.reverse() : text).toString();
    }

    /** A text whose order is that of the tones. */
    static String ordered(String signs) {
        return signs.replace('t', ':').replace('e', ';');
    }

    /** The least of the 48 forms of a row. */
    static String least(String row) {
        String least = row;
        for (int form = 0; form < 48; form++) {
            String other = form(row, form);
            least = ordered(other).compareTo(ordered(least)) < 0 ? other : least;
        }
        return least;
    }

    static boolean allUnlike(String signs) {
        return signs.chars().distinct().count() == signs.length();
    }
}
