/** What the tests of the office have in common: refusals, texts that are told, answers that are due. */
abstract class OfficeCheck {
    static final int NONE = -1, UNKNOWN = -2, OUTSIDE = -3, NOT = -4, FULL = -5;
    static final int NULL = -11, EMPTY = -12, ROOM = -13;
    static final int LEAST_INT = Integer.MIN_VALUE, GREATEST_INT = Integer.MAX_VALUE;
    static final Check CHECK = new Check();

    static void due(String call, int got, int want) {
        CHECK.due(call, got, want);
    }

    static void promise(int number) {
        CHECK.part("promise " + number);
    }

    /** The sentence of the document that would be broken, if what follows were not as due. */
    static void sentence(String words) {
        CHECK.part("\"" + words + "\"");
    }

    static void spell(HarbourLights x, String text) {
        for (int i = 0; i < text.length(); i++) {
            x.write(text.charAt(i));
        }
    }

    static HarbourLights told(String text) {
        HarbourLights x = new HarbourLights();
        tell(x, text);
        return x;
    }

    static void tell(HarbourLights x, String text) {
        x.erase();
        spell(x, text);
        due("office() of " + text, x.office(), text.split(";").length);
    }

    /** A text with a fault stays as it is; one without is not done by fault() either. */
    static void faultDue(HarbourLights x, String text, int want) {
        x.erase();
        spell(x, text);
        due("fault() of '" + text + "'", x.fault(), want);
        due("count(10) behind fault() of '" + text + "'", x.count(10), text.length());
        if (want != NONE) {
            due("office() of '" + text + "'", x.office(), NOT);
            due("count(10) behind '" + text + "'", x.count(10), text.length());
        }
    }

    static void faultDue(String text, int want) {
        faultDue(new HarbourLights(), text, want);
    }

    static String repeated(String clause, int n) {
        StringBuilder all = new StringBuilder(clause);
        for (int i = 1; i < n; i++) {
            all.append(';').append(clause);
        }
        return all.toString();
    }

    static void countsDue(HarbourLights x, int... want) {
        for (int what = 0; what < want.length; what++) {
            due("count(" + what + ")", x.count(what), want[what]);
        }
    }
}
