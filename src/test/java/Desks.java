/** Desks for tests, and what can be seen of one, as texts. */
final class Desks {
    static final int NONE = ScansionDesk.NONE;
    /** Numbers that nothing on a desk has. */
    static final int[] FAR_OFF = {Integer.MIN_VALUE, Integer.MIN_VALUE + 1, -1000003, -256, 256, 1000003,
        Integer.MAX_VALUE - 1, Integer.MAX_VALUE};

    private Desks() {
    }

    /** A desk with syllables told as "weight ends meets" by three digits each. */
    static ScansionDesk of(String... syllables) {
        ScansionDesk desk = new ScansionDesk();
        add(desk, syllables);
        return desk;
    }

    static void add(ScansionDesk desk, String... syllables) {
        for (String s : syllables) {
            desk.syllable(s.charAt(0) - '0', s.charAt(1) - '0', s.charAt(2) - '0');
        }
    }

    static ScansionDesk full(String syllable) {
        ScansionDesk desk = new ScansionDesk();
        for (int k = 0; k < 20; k++) {
            add(desk, syllable);
        }
        return desk;
    }

    /** The line as of() tells it, as syllables are told to of() here. */
    static String line(ScansionDesk desk) {
        StringBuilder told = new StringBuilder();
        for (int p = 0; p < desk.count(0); p++) {
            told.append(p > 0 ? " " : "").append(desk.of(p, 0)).append(desk.of(p, 1)).append(desk.of(p, 2));
        }
        return told.toString();
    }

    /** The line as the latest weeks() left it. */
    static String drawn(ScansionDesk desk, int syllables) {
        StringBuilder told = new StringBuilder();
        for (int p = 0; p < syllables; p++) {
            told.append(p > 0 ? " " : "").append(desk.drawn(p, 0)).append(desk.drawn(p, 1)).append(desk.drawn(p, 2));
        }
        return told.toString();
    }

    /** What a metre's best reading costs and, behind a colon, that reading; "none" without. */
    static String best(ScansionDesk desk, int metre) {
        int costs = desk.best(metre, NONE);
        StringBuilder row = new StringBuilder();
        for (int p = 0; p < desk.count(0); p++) {
            int v = desk.best(metre, p);
            row.append(v == NONE ? "?" : String.valueOf(v));
        }
        boolean none = costs == NONE && row.toString().replace("?", "").isEmpty();
        return none ? "none" : costs + ":" + row;
    }

    /** As what each syllable can be read, "-" for none. */
    static String ways(ScansionDesk desk) {
        StringBuilder told = new StringBuilder();
        for (int p = 0; p < desk.count(0); p++) {
            told.append(p > 0 ? " " : "");
            int from = told.length();
            for (int v = 0; v < 3; v++) {
                told.append(desk.of(p, 3 + v) == 1 ? String.valueOf(v) : "");
            }
            told.append(told.length() == from ? "-" : "");
        }
        return told.toString();
    }

    static String terms(ScansionDesk desk) {
        return desk.count(12) + " " + desk.count(13) + " " + desk.count(14);
    }

    /** How many calls were refused by -1, -2, -3, -5, -6. */
    static String refusals(ScansionDesk desk) {
        StringBuilder told = new StringBuilder();
        for (int k = 6; k <= 10; k++) {
            told.append(k > 6 ? " " : "").append(desk.count(k));
        }
        return told.toString();
    }

    /** All that an image keeps, as far as it can be asked without changing it. */
    static String kept(ScansionDesk desk) {
        StringBuilder told = new StringBuilder(line(desk) + "|" + terms(desk) + "|" + desk.count(2) + " heard, can be "
            + desk.canBe() + "|force " + desk.count(11) + "|" + desk.count(3) + " laws|" + desk.count(1) + " metres, fits "
            + desk.fits());
        for (int m = 0; m < desk.count(1); m++) {
            told.append("|").append(desk.steps(m)).append(" ").append(desk.length(m, 0)).append(" ")
                .append(desk.length(m, 1)).append(" ").append(best(desk, m));
            for (int law = 0; law < desk.count(3); law++) {
                told.append(" ").append(desk.compare(law, m));
            }
        }
        return told.toString();
    }

    /** All of it: what an image keeps, and what it does not. */
    static String all(ScansionDesk desk) {
        return kept(desk) + "|" + desk.count(4) + " to undo|" + desk.count(5) + " bytes|" + desk.fault() + "|"
            + desk.mutes() + "|" + desk.stopped() + "|" + drawn(desk, 20);
    }

    /** Undoes all that can be undone: what undo() told each time. */
    static String undone(ScansionDesk desk) {
        StringBuilder told = new StringBuilder();
        for (int k = 0; k < 20; k++) {
            int kind = desk.undo();
            if (kind < 0) {
                break;
            }
            told.append(kind);
        }
        return told.toString();
    }

    /** The fault of a metre's text on a new desk; that metre() answers as it should is due, too. */
    static int metreFault(String text) {
        ScansionDesk desk = new ScansionDesk();
        int answer = Texts.metre(desk, text);
        Due.is("metre \"" + text + "\"", answer, desk.fault() == NONE ? 0 : -6);
        Due.is("metres", desk.count(1), answer + 1 > 0 ? 1 : 0);
        Due.is("the tape", desk.count(5), 0);
        return desk.fault();
    }

    static int lawFault(String text) {
        ScansionDesk desk = new ScansionDesk();
        int answer = Texts.law(desk, text);
        Due.is("law \"" + text + "\"", answer, desk.fault() == NONE ? 0 : -6);
        Due.is("laws", desk.count(3), answer + 1 > 0 ? 1 : 0);
        Due.is("the tape", desk.count(5), 0);
        return desk.fault();
    }

    /** The fault of orders on a new desk: none of them can be refused by -6 then, all with one are. */
    static int ordersFault(String text) {
        ScansionDesk desk = new ScansionDesk();
        int answer = Texts.orders(desk, text);
        Due.is("orders \"" + text + "\"", answer == -6 ? 1 : 0, desk.fault() == NONE ? 0 : 1);
        Due.is("the tape", desk.count(5), 0);
        return desk.fault();
    }
}
