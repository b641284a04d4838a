import java.util.ArrayList;
import java.util.List;

/** Each sentence of the document's Terms I, II and IV that names a boundary case, LAWS and ORDERS aside. */
public final class TermsTest {
    private static final int NONE = ScansionDesk.NONE;

    // ---- I

    private static void syllablesTermsHeard() {
        Due.by("I", "SYLLABLES 0 .. 19 (20 at most), one behind the other");
        ScansionDesk d = new ScansionDesk();
        for (int k = 0; k < 20; k++) {
            Due.is("syllable " + k, d.syllable(k % 3, k & 1, k >> 1 & 1), k);
        }
        String line = Desks.line(d);
        Due.is("the 21st", d.syllable(0, 0, 0), -5);
        Due.is("the line", Desks.line(d), line);
        Due.is("how many", d.count(0), 20);
        Due.is("the last", d.of(19, 0), 1);
        Due.is("behind it", d.of(20, 0), NONE);

        Due.by("I", "WEIGHT 0 short, 1 long, 2 either; ENDS a word or not; MEETS the next one or not");
        ScansionDesk e = new ScansionDesk();
        int[][] bad = {{-1, 0, 0}, {3, 0, 0}, {0, -1, 0}, {0, 2, 0}, {0, 0, -1}, {0, 0, 2}};
        for (int[] b : bad) {
            Due.is("syllable", e.syllable(b[0], b[1], b[2]), -1);
        }
        for (int far : Desks.FAR_OFF) {
            Due.is("weight " + far, e.syllable(far, 0, 0), -1);
            Due.is("ends " + far, e.syllable(0, far, 0), -1);
            Due.is("meets " + far, e.syllable(0, 0, far), -1);
        }
        Due.is("none came", e.count(0), 0);
        Due.is("the highest", e.syllable(2, 1, 1), 0);
        Due.is("the lowest", e.syllable(0, 0, 0), 1);

        Due.by("I", "TERMS: 0 DAY 0 .. 999 (0 at first), 1 SLIPS 0 .. 10 (1), 2 MOOD 0 .. 9 (0)");
        ScansionDesk t = new ScansionDesk();
        Due.is("at first", Desks.terms(t), "0 1 0");
        int[] highest = {999, 10, 9};
        int[] first = {0, 1, 0};
        for (int what = 0; what < 3; what++) {
            Due.is("below 0", t.terms(what, -1), -1);
            Due.is("above", t.terms(what, highest[what] + 1), -1);
            Due.is("far above", t.terms(what, Integer.MAX_VALUE), -1);
            Due.is("far below", t.terms(what, Integer.MIN_VALUE), -1);
            Due.is("the highest", t.terms(what, highest[what]), first[what]);
            Due.is("the lowest", t.terms(what, 0), highest[what]);
            Due.is("as it is", t.terms(what, 0), 0);
            t.terms(what, highest[what]);
        }
        Due.is("then", Desks.terms(t), "999 10 9");

        Due.by("I", "HEARD, 6 at most: SYLLABLE p is READ as v (0 short, 1 long, 2 elided)");
        ScansionDesk h = new ScansionDesk();
        for (int k = 1; k <= 6; k++) {
            Due.is("heard, no such syllable yet", h.heard(k == 6 ? 19 : 0, k % 3), k);
        }
        Due.is("the seventh", h.heard(0, 0), -5);
        Due.is("six", h.count(2), 6);
        int[][] badHeard = {{-1, 0}, {20, 0}, {0, -1}, {0, 3}, {Integer.MIN_VALUE, 0}, {0, Integer.MAX_VALUE}};
        for (int[] b : badHeard) {
            Due.is("heard", h.heard(b[0], b[1]), -1);
        }
    }

    private static void theFirstInThatOrder() {
        Due.by("I", "REFUSED by: -1 ..; -2 ..; -3 ..; -5 ..; -6 .. The first of these in that order.");
        ScansionDesk d = Desks.full("000");
        Due.is("-1 ahead of -5: syllable", d.syllable(3, 0, 0), -1);
        for (int k = 0; k < 6; k++) {
            d.heard(0, 0);
            Texts.metre(d, "any");
            Texts.law(d, "bars");
        }
        Due.is("-1 ahead of -5: heard", d.heard(20, 0), -1);
        Due.is("-1 ahead of -2: weigh", d.weigh(20, 3), -1);
        Due.is("-1 ahead of -3: weigh", d.weigh(0, -1), -1);
        Due.is("-2 ahead of -3: weigh", d.weigh(20, 0), -2);
        Due.is("-3: weigh", d.weigh(0, 0), -3);
        Due.is("-5 ahead of -6: metre", Texts.metre(d, "x"), -5);
        Due.is("-5 ahead of -6: metre, no text", d.metre(), -5);
        Due.is("-5 ahead of -6: law", Texts.law(d, "x"), -5);
        Due.is("-5 ahead of -6: law, no text", d.law(), -5);
        Due.is("-1 ahead of -2: back", d.back(2), -1);
        Due.is("-2: back", d.back(1), -2);
        Due.is("-6 and nothing is run: orders", Texts.orders(d, "weigh 0 to 1; end 20; x"), -6);
        Due.is("-3: orders", Texts.orders(d, "weigh 0 to 1; end 20"), -3);
        Due.is("each once", Desks.refusals(d), "5 2 2 4 1");
        ScansionDesk e = new ScansionDesk();
        Due.is("-1 ahead of -3: weeks", e.weeks(0, 61), -1);
        Due.is("-1 ahead of -3: weeks, seed", e.weeks(1000001, 1), -1);
        Due.is("-3: weeks", e.weeks(0, 1), -3);
        Due.is("-5 alone: no room for a row's syllables is no refusal", rowOf(d, "\0\0\0"), 0);
        Due.is("a number that is below all metres is one that is not there", d.steps(-1), NONE);
        Due.is("likewise a law", d.force(-2), -2);
        Due.is("likewise a syllable", d.ends(-1), -2);
    }

    private static int rowOf(ScansionDesk d, String text) {
        Texts.put(d, text);
        return d.row();
    }

    private static void setsAsBits() {
        Due.by("I", "Sets are told as bits.");
        ScansionDesk d = Desks.of("100");
        String[] metres = {"long", "short", "any", "long long", "short", "any or cut"};
        for (String m : metres) {
            Texts.metre(d, m);
        }
        Due.is("fits", d.fits(), 0b100101);
        Due.is("can be", d.canBe(), 0b100101);
        d.weigh(0, 2);
        Due.is("fits", d.fits(), 0b110111);
        d.heard(0, 1);
        Due.is("can be", d.canBe(), 0b100101);
    }

    // ---- II, the tape and the tokens

    private static void tapeOf400() {
        Due.by("II", "TEXTS are on a TAPE of at most 400 bytes");
        ScansionDesk d = new ScansionDesk();
        for (int k = 1; k <= 20; k++) {
            Due.is("feed", d.feed(0x20202020, 0x20202020, 0x20202020, 0x20202020, 0x20202020), 20 * k);
        }
        Due.is("21 times twenty", d.feed(0, 0, 0, 0, 0), NONE);
        Due.is("bytes", d.count(5), 400);
        Due.is("400 blanks", d.metre(), -6);
        Due.is("their end", d.fault(), 400);
        Due.is("380 and 20", metreIn("any" + Texts.repeat(" ", "", 394) + "any"), 0);
        Due.is("400 signs without a blank", metreIn(Texts.repeat("(cut)", "", 80)), 0);
        Due.is("400 letters", faultOf(Texts.repeat("a", "", 400)), 0);
        Due.is("a 400th sign that can't go on", faultOf("any" + Texts.repeat(" ", "", 396) + ")"), 399);
    }

    private static int metreIn(String text) {
        return Texts.metre(new ScansionDesk(), text);
    }

    private static int faultOf(String metre) {
        return Desks.metreFault(metre);
    }

    private static int lawFault(String law) {
        return Desks.lawFault(law);
    }

    private static int ordersFault(String orders) {
        return Desks.ordersFault(orders);
    }

    private static void tokens() {
        Due.by("II", "TOKENS: longest rows of letters a .. z, of digits, single other bytes, any blanks (32) between");
        Due.is("no blank is needed by a bracket", faultOf("long(short)any"), NONE);
        Due.is("nor between letters and digits", faultOf("long times2short times3"), NONE);
        Due.is("a word is as long as it can be", faultOf("longshort"), 0);
        Due.is("and is no shorter one", faultOf("long an"), 5);
        Due.is("nor a longer one", faultOf("long anyx"), 5);
        Due.is("a number is as long as it can be", faultOf("long times 12"), 11);
        Due.is("blanks part digits", faultOf("long times 1 2"), 13);
        Due.is("blanks part letters", faultOf("lo ng"), 0);
        Due.is("blanks ahead of all, behind all", faultOf("   long   "), NONE);
        Due.is("letters behind digits begin a token", faultOf("long times 2x"), 12);
        Due.is("`, ahead of a", faultOf("long`"), 4);
        Due.is("{, behind z", faultOf("long{"), 4);
        Due.is("/, ahead of 0", lawFault("costs 1/"), 8);
        Due.is("/ is one of a law", lawFault("costs 1/2"), NONE);
        Due.is(":, behind 9", lawFault("costs 1:2"), 7);
        Due.is("capital letters", faultOf("LONG"), 0);
        Due.is("two single bytes are two tokens", lawFault("bars if 1<=1"), 10);
        for (int sign = 0; sign < 256; sign++) {
            boolean blank = sign == 32;
            boolean joins = sign >= 'a' && sign <= 'z';
            Due.is("byte " + sign + " behind a word", faultOf("long" + (char) sign), blank ? NONE : sign == '(' ? 5 : joins ? 0 : 4);
            Due.is("byte " + sign + " ahead of one", faultOf((char) sign + "long"), blank ? NONE : sign == '(' ? 5 : 0);
        }
    }

    private static void faults() {
        Due.by("II", "FAULT: the first TOKEN that can't go on there (the end's: the TEXT's length)");
        Due.is("no text", faultOf(""), 0);
        Due.is("no law", lawFault(""), 0);
        Due.is("no orders", ordersFault(""), 0);
        Due.is("the first of two", faultOf("long or ) ]"), 8);
        Due.is("not ahead of it", faultOf("long x short"), 5);
        Due.is("the end", faultOf("(long"), 5);
        Due.is("the end behind blanks", faultOf("(long   "), 8);
        Due.is("a law's end", lawFault("bars if 1="), 10);
        Due.is("a law's end behind blanks", lawFault("bars if 1=  "), 12);
        Due.is("orders' end", ordersFault("weigh 0 to"), 10);
        Due.is("orders' end behind blanks", ordersFault("weigh 0 to  "), 12);
        Due.is("a word that is not whole at the end", faultOf("long shor"), 5);
        Due.is("words of laws in metres", faultOf("bars"), 0);
        Due.is("words of metres in laws", lawFault("costs long"), 6);
        Due.is("words of orders in laws", lawFault("bars if done=0"), 8);
        Due.is("words of laws in orders", ordersFault("end place"), 4);
        Due.is("clauses of orders in laws", lawFault("pass"), 0);
        Due.is("clauses of laws in orders", ordersFault("bars"), 0);
    }

    private static String nested(String open, String close, int deep, String inside) {
        return Texts.repeat(open, "", deep) + inside + Texts.repeat(close, "", deep);
    }

    private static void eightBrackets() {
        Due.by("II", "In all languages 8 brackets of both kinds within one another (FAULT at the 9th) at most");
        Due.is("8 in a metre", faultOf(nested("(", ")", 8, "any")), NONE);
        Due.is("steps in 8 brackets", stepsOf(nested("(", ")", 7, "any or (cut any)times 2")), 5);
        Due.is("9 in a metre", faultOf(nested("(", ")", 9, "any")), 8);
        Due.is("8, and 8 behind them", faultOf(nested("(", ")", 8, "any") + nested("(", ")", 8, "any")), NONE);
        Due.is("8, and 9 behind them", faultOf(nested("(", ")", 8, "any") + nested("(", ")", 9, "any")), 19 + 8);
        Due.is("the 9th at a later place", faultOf("(any (" + nested("(", ")", 6, "any or (cut)") + "))"), 6 + 6 + 7);
        Due.is("8 [ in a law", lawFault("costs " + nested("[", "]", 8, "1")), NONE);
        Due.is("9 [ in a law", lawFault("costs " + nested("[", "]", 9, "1")), 14);
        Due.is("8 ( in a law", lawFault("bars if " + nested("(", ")", 8, "1=1")), NONE);
        Due.is("9 ( in a law", lawFault("bars if " + nested("(", ")", 9, "1=1")), 16);
        Due.is("5 ( and 3 [", lawFault("bars if " + nested("(", ")", 5, nested("[", "]", 3, "1") + "=1")), NONE);
        Due.is("5 ( and 4 [", lawFault("bars if " + nested("(", ")", 5, nested("[", "]", 4, "1") + "=1")), 16);
        Due.is("5 ( and 3 [ on the right", lawFault("bars if " + nested("(", ")", 5, "1=" + nested("[", "]", 3, "1"))), NONE);
        Due.is("5 ( and 4 [ on the right", lawFault("bars if " + nested("(", ")", 5, "1=" + nested("[", "]", 4, "1"))), 18);
        Due.is("8 ( behind nots", lawFault("bars if " + nested("not(", ")", 8, "1=1")), NONE);
        Due.is("9 ( behind nots", lawFault("bars if " + nested("not(", ")", 9, "1=1")), 8 + 8 * 4 + 3);
        Due.is("8 [ in orders", ordersFault("end " + nested("[", "]", 8, "0")), NONE);
        Due.is("9 [ in orders", ordersFault("end " + nested("[", "]", 9, "0")), 12);
        Due.is("9 [ behind to", ordersFault("weigh 0 to " + nested("[", "]", 9, "0")), 19);
        Due.is("8 of both in orders", ordersFault("pass if " + nested("(", ")", 7, "[1]=[1]")), NONE);
        Due.is("9 of both in orders", ordersFault("pass if " + nested("(", ")", 8, "[1]=[1]")), 16);
        Due.is("8 at each part", lawFault("costs " + Texts.repeat(nested("[", "]", 8, "1"), "*", 3)), NONE);
    }

    // ---- II, metres

    private static void metresAndTimes() {
        Due.by("II", "METRES, 6 at most");
        ScansionDesk d = new ScansionDesk();
        for (int k = 0; k < 6; k++) {
            Due.is("a metre", Texts.metre(d, "any times " + (k + 1)), k);
        }
        Due.is("the seventh", Texts.metre(d, "any"), -5);
        Due.is("how many", d.count(1), 6);
        Due.is("the sixth", d.steps(5), 6);
        Due.is("behind it", d.steps(6), NONE);

        Due.by("II", "METRE: CHOICE {\"or\" CHOICE}. CHOICE: UNIT {UNIT}.");
        Due.is("one", faultOf("cut"), NONE);
        Due.is("a choice of no units ahead", faultOf("or cut"), 0);
        Due.is("a choice of no units behind", faultOf("cut or"), 6);
        Due.is("a choice of no units between", faultOf("cut or or cut"), 7);
        Due.is("brackets around nothing", faultOf("long ()"), 6);
        Due.is("brackets around half a choice", faultOf("(long or )"), 9);
        Due.is("brackets that were not opened", faultOf("long )"), 5);
        Due.is("the other brackets", faultOf("long [short]"), 5);
        Due.is("the other closing bracket", faultOf("(long ]"), 6);
        Due.is("many choices", faultOf(Texts.repeat("cut", " or ", 57)), NONE);

        Due.by("II", "[\"times\" N], N a NUMBER 1 .. 9");
        Due.is("0", faultOf("cut times 0"), 10);
        Due.is("1", faultOf("cut times 1"), NONE);
        Due.is("9", faultOf("cut times 9"), NONE);
        Due.is("10", faultOf("cut times 10"), 10);
        Due.is("4294967297, which is 1 in 32 bits", faultOf("cut times 4294967297"), 10);
        Due.is("18446744073709551617, which is 1 in 64", faultOf("cut times 18446744073709551617"), 10);
        Due.is("none", faultOf("cut times"), 9);
        Due.is("a word", faultOf("cut times any"), 10);
        Due.is("twice", faultOf("cut times 2 times 2"), 12);
        Due.is("ahead of a unit", faultOf("times 2 cut"), 0);
        Due.is("behind or", faultOf("cut or times 2"), 7);
        Due.is("behind a bracket", faultOf("(cut) times 2"), NONE);
        Due.is("0 behind a bracket", faultOf("(cut) times 0"), 12);
        Due.is("a number alone", faultOf("cut 2"), 4);
    }

    private static int stepsOf(String metre) {
        ScansionDesk d = new ScansionDesk();
        Texts.metre(d, metre);
        return d.steps(0);
    }

    private static void twoHundredSteps() {
        Due.by("II", "STEPS of a METRE: .. each as often as all \"times\" around it together tell (of all CHOICES)");
        Due.is("one", stepsOf("cut"), 1);
        Due.is("of all choices", stepsOf("long or short or any or cut"), 4);
        Due.is("all times around it", stepsOf("((long times 2 short) times 3 cut) times 4"), (3 * 3 + 1) * 4);
        Due.is("of all choices in brackets", stepsOf("(long short or cut) times 9"), 27);

        Due.by("II", "with more than 200 it is refused (FAULT at the end)");
        Due.is("200", stepsOf("((any times 5)times 5)times 8"), 200);
        Due.is("200 in choices", stepsOf("((any or cut times 4)times 5)times 4 or (short times 5)times 5"
            + " or (long times 5)times 9 or any times 9 any times 9 any times 9 any times 3"), 200);
        String choices = "(" + Texts.repeat("cut", " or ", 50) + ")times 4";
        Due.is("200 in 50 choices, four times", stepsOf(choices), 200);
        ScansionDesk empty = new ScansionDesk();
        Texts.metre(empty, choices);
        Due.is("they take an empty line", Desks.best(empty, 0) + " " + empty.fits(), "0: 1");
        Due.is("201", faultOf("((any times 5)times 5)times 8 cut"), 33);
        Due.is("201 in choices", faultOf("cut or ((any times 5)times 5)times 8"), 36);
        Due.is("201, blanks behind", faultOf("((any times 5)times 5)times 8 cut   "), 36);
        Due.is("201 in brackets", faultOf("(((any times 5)times 5)times 8 cut)"), 35);
        Due.is("as many as wrap around", faultOf(nested("(", ")times 9", 8, "any times 9")), 8 + 11 + 8 * 8);
        Due.is("a fault ahead of the end", faultOf("((any times 5)times 5)times 9 )"), 30);
        ScansionDesk d = new ScansionDesk();
        Due.is("refused by -6", Texts.metre(d, "((any times 5)times 5)times 8 cut"), -6);
        Due.is("no metre came", d.count(1), 0);
    }

    // ---- IV

    /** The line that WEEKS lead to by the document's words, the draws' rows being kept aside. */
    private static String lineBehindWeeks(List<int[]> line, long seed, int days) {
        long s = seed;
        for (int day = 0; day < days; day++) {
            int[] draws = new int[3];
            int[] of = {line.size(), 3, 4};
            for (int k = 0; k < 3; k++) {
                s = (s * 1103 + 12345) % 1000003;
                draws[k] = (int) (s % of[k]);
            }
            int[] syllable = line.get(draws[0]);
            if (draws[2] <= 1) {
                syllable[0] = draws[1];
            } else {
                syllable[draws[2] - 1] ^= 1;
            }
        }
        StringBuilder told = new StringBuilder();
        for (int[] y : line) {
            told.append(told.length() > 0 ? " " : "").append(y[0]).append(y[1]).append(y[2]);
        }
        return told.toString();
    }

    private static List<int[]> shorts(int n) {
        List<int[]> line = new ArrayList<>();
        for (int k = 0; k < n; k++) {
            line.add(new int[3]);
        }
        return line;
    }

    private static void weekBounds() {
        Due.by("IV", "WEEKS with a SEED, n 1 .. 60, on paper: s is the SEED (0 .. 1,000,000)");
        ScansionDesk d = Desks.of("000", "000", "000", "000", "000");
        Texts.metre(d, "any times 5");
        Due.is("n 0", d.weeks(5, 0), -1);
        Due.is("n 61", d.weeks(5, 61), -1);
        Due.is("n below 0", d.weeks(5, Integer.MIN_VALUE), -1);
        Due.is("n far above", d.weeks(5, Integer.MAX_VALUE), -1);
        Due.is("seed -1", d.weeks(-1, 1), -1);
        Due.is("seed 1,000,001", d.weeks(1000001, 1), -1);
        Due.is("seed far below", d.weeks(Integer.MIN_VALUE, 1), -1);
        Due.is("seed far above", d.weeks(Integer.MAX_VALUE, 1), -1);
        Due.is("none was drawn", d.drawn(0, 0), NONE);
        int[] seeds = {0, 1, 999999, 1000000, 12345, 777777};
        for (int seed : seeds) {
            for (int n : new int[] {1, 2, 59, 60}) {
                Due.is("each day it takes the line", d.weeks(seed, n), n);
                Due.is("seed " + seed + ", " + n, Desks.drawn(d, 5), lineBehindWeeks(shorts(5), seed, n));
            }
        }
        Due.is("on paper", Desks.line(d), "000 000 000 000 000");
        Due.is("on paper, the day", d.count(12), 0);
        ScansionDesk full = Desks.full("000");
        full.weeks(424242, 60);
        Due.is("20 syllables", Desks.drawn(full, 20), lineBehindWeeks(shorts(20), 424242, 60));
        ScansionDesk one = Desks.of("000");
        one.weeks(31, 60);
        Due.is("1 syllable", Desks.drawn(one, 1), lineBehindWeeks(shorts(1), 31, 60));
    }

    private static void weekDays() {
        Due.by("IV", "Each time, as long as DAY is below 999, DRAWS ..; then the DAY passes");
        ScansionDesk d = Desks.of("200", "200");
        Texts.metre(d, "any any");
        Texts.metre(d, "cut any any");
        for (int left = 0; left <= 3; left++) {
            d.terms(0, 999 - left);
            Due.is(left + " days are left", d.weeks(7, 60), 2 * left);
            List<int[]> line = shorts(2);
            line.get(0)[0] = 2;
            line.get(1)[0] = 2;
            Due.is("drawn on " + left + " days", Desks.drawn(d, 2), lineBehindWeeks(line, 7, left));
            Due.is("the day is as it was", d.count(12), 999 - left);
        }
        Texts.law(d, "bars if day=10 or day=12");
        d.force(0);
        d.terms(0, 10);
        Due.is("the line as it stands behind the draws, on each day's own number", d.weeks(9, 3), 2);

        Due.by("IV", "at 0, 1 (the last DRAW) the SYLLABLE's WEIGHT is the second DRAW");
        ScansionDesk e = Desks.of("000");
        Texts.metre(e, "short");
        int takes = 0;
        for (int seed = 0; seed < 40; seed++) {
            List<int[]> line = shorts(1);
            String want = lineBehindWeeks(line, seed, 1);
            takes = line.get(0)[0] == 1 ? 0 : 1;
            Due.is("taken behind the draws, seed " + seed, e.weeks(seed, 1), takes);
            Due.is("whatever comes of it, seed " + seed, Desks.drawn(e, 1), want);
        }
    }

    private static void rows() {
        Due.by("IV", "A ROW: the TAPE's bytes by threes: WEIGHT, ENDS (1, 0), MEETS (1, 0): a SYLLABLE behind the others");
        ScansionDesk d = Desks.of("211");
        Due.is("three", rowOf(d, "\0\0\0\1\1\0\2\0\1"), 3);
        Due.is("behind the others", Desks.line(d), "211 000 110 201");
        Due.is("no mutes", d.mutes(), 0);

        Due.by("IV", "one that can't be, one within which the TAPE ends, one for which there is no room is a MUTE: nothing");
        String[] mutes = {"\3\0\0", "\0\2\0", "\0\0\2", "\377\0\0", "\0\377\0", "\0\0\377", "0\0\0", "\200\0\0", "\0", "\0\0"};
        for (String m : mutes) {
            Due.is("a mute", rowOf(d, m), 0);
            Due.is("mutes", d.mutes(), 1);
        }
        Due.is("a mute is no refusal", d.status(), 0);
        Due.is("between others", rowOf(d, "\1\0\0\3\0\0\1\0\0"), 2);
        Due.is("one", d.mutes(), 1);
        Due.is("the tape ends within it by one byte", rowOf(d, "\1\0\0\1"), 1);
        Due.is("one", d.mutes(), 1);
        Due.is("the tape ends within it by two bytes", rowOf(d, "\1\0\0\1\0"), 1);
        Due.is("one", d.mutes(), 1);
        Due.is("how many there are", d.count(0), 8);
        Due.is("room for 12 of 14", rowOf(d, Texts.repeat("\2\1\1", "", 14)), 12);
        Due.is("two for which there is no room", d.mutes(), 2);
        Due.is("none for which there is room", rowOf(d, "\0\0\0\0"), 0);
        Due.is("two", d.mutes(), 2);
        Due.is("20", d.count(0), 20);
        ScansionDesk e = new ScansionDesk();
        Due.is("400 bytes", rowOf(e, Texts.repeat("\1\0\0\1", "", 100)), 20);
        Due.is("400 bytes are 134 threes", e.mutes(), 114);
    }

    private static void images() {
        Due.by("IV", "IMAGES 0, 1 keep all but the TAPE, FAULT, MUTES, where ORDERS stopped, what can be undone (nothing, behind back()), the latest WEEKS");
        ScansionDesk d = Desks.of("201", "210", "200");
        for (String m : new String[] {"short any any", "any short any", "any any short", "any any"}) {
            Texts.metre(d, m);
        }
        Texts.law(d, "costs place");
        d.heard(0, 1);
        d.force(0);
        d.terms(0, 17);
        d.terms(1, 3);
        d.terms(2, 4);
        String first = Desks.kept(d);
        d.image(0);
        d.image(1);
        d.weigh(0, 1);
        d.ends(1);
        d.meets(2);
        d.pass();
        d.terms(1, 5);
        d.terms(2, 6);
        d.syllable(0, 0, 0);
        d.heard(1, 1);
        Texts.metre(d, "any times 4 or long");
        Texts.law(d, "allows");
        d.force(1);
        String second = Desks.kept(d);
        d.image(1);
        d.weeks(11, 9);
        Texts.orders(d, "pass;end 19");
        rowOf(d, "xxxxyyyz");
        Texts.metre(d, "any x");
        d.weigh(0, 2);
        Texts.put(d, "seven b");
        String beside = Desks.drawn(d, 9) + d.stopped() + " " + d.mutes() + " " + d.fault() + " " + d.count(5);
        Due.is("to undo", d.count(4), 1);
        Due.is("back to 0", d.back(0), 0);
        Due.is("all that it keeps", Desks.kept(d), first);
        Due.is("what it does not keep", Desks.drawn(d, 9) + d.stopped() + " " + d.mutes() + " " + d.fault() + " " + d.count(5), beside);
        Due.is("to undo: nothing, behind back()", d.count(4), 0);
        Due.is("undo", d.undo(), -3);
        Due.is("back to 1", d.back(1), 0);
        Due.is("all that it keeps", Desks.kept(d), second);
        Due.is("refusals are not kept", Desks.refusals(d), "0 0 2 0 1");

        Due.by("IV", "BACK to one all that it keeps is as it was then (IMAGES stay)");
        d.terms(2, 9);
        Texts.metre(d, "cut");
        Due.is("to 0 again", d.back(0), 0);
        Due.is("to 0 again", Desks.kept(d), first);
        d.weigh(1, 0);
        d.forget();
        d.heard(2, 1);
        Due.is("heard otherwise", d.canBe(), 0b1011);
        Texts.metre(d, "short");
        Texts.law(d, "bars");
        Due.is("to 0 once more", d.back(0), 0);
        Due.is("to 0 once more", Desks.kept(d), first);
        Due.is("heard as it was", d.canBe(), 0b0110);
        d.forget();
        d.heard(0, 0);
        Due.is("heard as what it was not", d.canBe(), 0b0111);
        d.back(0);
        Due.is("heard as what it was", d.canBe(), 0b0110);
        Due.is("to 1 again", d.back(1), 0);
        Due.is("to 1 again", Desks.kept(d), second);
        d.image(0);
        Due.is("0 was kept anew", d.back(0), 0);
        Due.is("0 was kept anew", Desks.kept(d), second);
    }

    /** Twenty syllables, no two neighbours alike. */
    private static ScansionDesk varied() {
        ScansionDesk d = new ScansionDesk();
        for (int k = 0; k < 20; k++) {
            d.syllable((k + 1) % 3, k % 2, k / 2 % 2);
        }
        return d;
    }

    private static void fullLines() {
        Due.by("IV", "BACK to one all that it keeps is as it was then");
        ScansionDesk d = varied();
        String line = Desks.line(d);
        d.image(1);
        for (int k = 0; k < 20; k++) {
            d.weigh(k, k % 3);
            d.ends(k);
            d.meets(k);
        }
        Due.is("back to 20 syllables", d.back(1), 0);
        Due.is("back to 20 syllables", Desks.line(d), line);

        Due.by("IV", "WEEKS with a SEED, n 1 .. 60, on paper");
        d.terms(0, 999);
        d.weeks(5, 1);
        Due.is("20 syllables, no days", Desks.drawn(d, 20), line);
        d.terms(0, 0);
        d.weeks(5, 60);
        Due.is("20 syllables, as they stand", Desks.line(d), line);

        Due.by("II", "all is as it was ahead of it");
        ScansionDesk e = varied();
        Due.is("20 syllables, orders that can't be", Texts.orders(e, "weigh 19 to 0;weigh 8 to 1;end 13;meet 19;end 20"), -3);
        Due.is("20 syllables", Desks.line(e), line);
    }

    private static void calls512() {
        Due.by("What it is", "An object is used for at most 512 calls after it has been made");
        ScansionDesk d = new ScansionDesk();
        for (int k = 0; k < 511; k++) {
            d.count(k - 255);
        }
        Due.is("the 512th", d.syllable(0, 0, 0), 0);
        ScansionDesk e = Desks.of("000");
        for (int k = 0; k < 500; k++) {
            e.weigh(0, 0);
        }
        Due.is("500 are refused", e.count(8), 500);
    }

    public static void main(String[] args) {
        syllablesTermsHeard();
        theFirstInThatOrder();
        setsAsBits();
        tapeOf400();
        tokens();
        faults();
        eightBrackets();
        metresAndTimes();
        twoHundredSteps();
        weekBounds();
        weekDays();
        rows();
        images();
        fullLines();
        calls512();
        Due.tell();
    }
}
