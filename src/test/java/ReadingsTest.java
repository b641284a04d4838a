/** Each sentence of the document's Terms III that names a boundary case. */
public final class ReadingsTest {
    private static final int NONE = ScansionDesk.NONE;

    /** Whether a metre takes a line. */
    private static int takes(String metre, String... syllables) {
        ScansionDesk d = Desks.of(syllables);
        Due.is("metre \"" + metre + "\"", Texts.metre(d, metre), 0);
        boolean fits = d.fits() == 1;
        Due.is("it has a best reading", d.best(0, NONE) >= 0 ? 1 : 0, fits ? 1 : 0);
        Due.is("it has elisions", d.elisions(0) >= 0 ? 1 : 0, fits ? 1 : 0);
        Due.is("nothing is to be mended", d.mend(0) == 0 ? 1 : 0, fits ? 1 : 0);
        Due.is("it reaches all", !fits || d.reach(0) == syllables.length ? 1 : 0, 1);
        Due.is("it can be", d.canBe(), d.fits());
        Due.is("on its day", d.pass(), d.fits());
        return d.fits();
    }

    private static ScansionDesk with(String metre, String... syllables) {
        ScansionDesk d = Desks.of(syllables);
        Texts.metre(d, metre);
        return d;
    }

    private static void takesIt() {
        Due.by("III", "A METRE TAKES it, if by CHOICES made (each time anew, if it is repeated) its STEPS go along with it to its end");
        Due.is("to the line's end", takes("long", "100", "100"), 0);
        Due.is("to its own end", takes("long long", "100"), 0);
        Due.is("both", takes("long long", "100", "100"), 1);
        Due.is("each time anew", takes("(long or short) times 3", "100", "000", "100"), 1);
        Due.is("each time anew, of several lengths", takes("(long or short short) times 3", "100", "000", "000", "100"), 1);
        Due.is("one too few", takes("(long or short short) times 3", "100", "000", "000"), 0);
        Due.is("one too many", takes("(long or short short) times 3", "100", "100", "100", "100"), 0);
        Due.is("brackets in brackets", takes("((long or short) times 2 or any) times 2", "100", "000", "100"), 1);
        Due.is("an empty line, a step", takes("long"), 0);
        Due.is("an empty line, a cut", takes("cut"), 1);
        Due.is("an empty line, a choice of a cut", takes("long or cut times 9"), 1);
        Due.is("a choice behind the line's end", takes("long (long or short)", "100"), 0);
        Due.is("a choice behind the line's end that can be nothing", takes("long (long or cut or short)", "110"), 1);
        Due.is("20 syllables", takes("long times 9 long times 9 long times 2", Texts.repeat("100", " ", 20).split(" ")), 1);
        Due.is("20 syllables, 19 steps", takes("long times 9 long times 9 long", Texts.repeat("100", " ", 20).split(" ")), 0);
        Due.is("20 syllables, 21 steps", takes("long times 9 long times 9 long times 3", Texts.repeat("100", " ", 20).split(" ")), 0);

        Due.by("III", "\"long\" with the next one READ as 1, \"short\" as 0, \"any\" as 0 or 1");
        Due.is("long, short", takes("long", "000"), 0);
        Due.is("short, long", takes("short", "100"), 0);
        Due.is("any, short", takes("any", "000"), 1);
        Due.is("any, long", takes("any", "100"), 1);
        Due.is("long, either", takes("long", "200"), 1);
        Due.is("short, either", takes("short", "200"), 1);

        Due.by("III", "those READ as 2 go along wherever they stand");
        Due.is("ahead of all", takes("long", "001", "100"), 1);
        Due.is("between", takes("long long", "100", "001", "100"), 1);
        Due.is("not behind all, as the last one can't be", takes("long", "100", "001"), 0);
        Due.is("all but the last", takes("long", "001", "101", "201", "001", "100"), 1);
        Due.is("none of them need be", takes("short long", "001", "100"), 1);
        Due.is("it goes along with no step", takes("any any", "001", "100"), 1);
        Due.is("nor with any twice", takes("any any any", "001", "100"), 0);
    }

    private static void cuts() {
        Due.by("III", "\"cut\" with a place between two SYLLABLES (or ahead of all, behind all), if the SYLLABLE ahead of it, whatever it is READ as, ENDS a word, or there is none");
        Due.is("ahead of all", takes("cut long", "100"), 1);
        Due.is("between, a word ends", takes("long cut long", "110", "100"), 1);
        Due.is("between, no word ends", takes("long cut long", "100", "110"), 0);
        Due.is("behind all, a word ends", takes("long cut", "110"), 1);
        Due.is("behind all, no word ends", takes("long cut", "100"), 0);
        Due.is("twice at one place", takes("long cut cut times 9 long", "110", "100"), 1);
        Due.is("behind one that is elided and ends a word", takes("long cut long", "100", "011", "100"), 1);
        Due.is("ahead of one that is elided", takes("long cut long", "110", "001", "100"), 1);
        Due.is("on neither side of one that is elided", takes("long cut long", "100", "001", "110"), 0);
        Due.is("the first one is elided and ends a word", takes("cut long", "011", "100"), 1);
        Due.is("the first one is elided and ends none: ahead of all", takes("cut long", "001", "100"), 1);
        Due.is("behind one that is read as it is not", takes("long cut long", "211", "100"), 1);
        ScansionDesk full = Desks.full("100");
        Texts.metre(full, "long times 9 long times 9 long long cut");
        Texts.metre(full, "long times 9 long times 9 long cut long");
        Due.is("20 syllables, no word ends", full.fits(), 0);
        full.ends(19);
        Due.is("behind the 20th", full.fits(), 0b01);
        full.ends(18);
        Due.is("behind the 19th, too", full.fits(), 0b11);
    }

    private static void weighEndMeetDay() {
        Due.by("III", "To WEIGH: a SYLLABLE has another WEIGHT. To END: it ENDS a word, if it did not, else no more. To MEET: likewise.");
        ScansionDesk d = Desks.full("000");
        Due.is("no other weight", d.weigh(19, 0), -3);
        Due.is("another", d.weigh(19, 2), 0);
        Due.is("the last one ends", d.ends(19), 1);
        Due.is("no more", d.ends(19), 0);
        Due.is("the last one meets", d.meets(19), 1);
        Due.is("it still can't be elided", d.of(19, 5), 0);
        Due.is("no more", d.meets(19), 0);
        Due.is("the line", Desks.line(d), Texts.repeat("000", " ", 19) + " 200");

        Due.by("III", "it is the next DAY (at 999 it can't be)");
        d.terms(0, 998);
        Due.is("at 998", d.pass(), 0);
        Due.is("then", d.count(12), 999);
        Due.is("at 999", d.pass(), -3);
        Due.is("then", d.count(12), 999);
        Due.is("undone", d.undo(), 3);
        Due.is("then", d.count(12), 998);
    }

    private static void bestReading() {
        Due.by("III", "The BEST READING of a METRE: that of all it TAKES that COSTS least together; the first as a row of v, by the first SYLLABLE in which they differ");
        Due.is("none", Desks.best(with("long long", "100"), 0), "none");
        Due.is("of an empty line", Desks.best(with("cut"), 0), "0:");
        Due.is("all alike", Desks.best(with("any any any", "200", "200", "200"), 0), "0:000");
        Due.is("the first syllable decides", Desks.best(with("long short short or short long long", "200", "200", "200"), 0), "0:011");
        Due.is("whichever choice is first", Desks.best(with("short long long or long short short", "200", "200", "200"), 0), "0:011");
        Due.is("then the second", Desks.best(with("short long short or short short long", "200", "200", "200"), 0), "0:001");
        Due.is("then the last", Desks.best(with("short short any", "200", "200", "200"), 0), "0:000");
        Due.is("elided is behind long", Desks.best(with("any any", "201", "201", "200"), 0), "1:020");
        ScansionDesk costly = with("any any", "201", "201", "200");
        Texts.law(costly, "costs 1");
        costly.force(0);
        Due.is("at one cost", Desks.best(costly, 0), "3:020");
        Texts.law(costly, "costs 1;costs 0 if as=2 and place=0");
        costly.force(1);
        Due.is("what costs least is first of all", Desks.best(costly, 0), "2:200");
        ScansionDesk most = Desks.full("200");
        Texts.metre(most, "any times 9 any times 9 any any");
        Texts.law(most, "costs 99");
        most.force(0);
        Due.is("the most that a reading can cost", Desks.best(most, 0), "1980:00000000000000000000");
        Texts.law(most, "costs 99;costs 98 if as=1 and place=19");
        most.force(1);
        Due.is("one less at the last", Desks.best(most, 0), "1979:00000000000000000001");
        Texts.law(most, "costs 99-as;costs 99 if as=0 and place=0");
        most.force(2);
        Due.is("one less at each", Desks.best(most, 0), "1960:11111111111111111111");
        ScansionDesk row = Desks.full("201");
        Texts.metre(row, "any times 9 any");
        Texts.law(row, "costs 3");
        row.force(0);
        Due.is("the first row of ten elided", Desks.best(row, 0), "60:00000000022222222220");
    }

    private static void elisionsAndMending() {
        Due.by("III", "ELISIONS: the fewest that are READ as 2 in one it TAKES");
        Due.is("none", with("any any", "001", "000").elisions(0), 0);
        Due.is("one", with("any", "001", "000").elisions(0), 1);
        Due.is("the fewest", with("any or any any or any any any", "001", "001", "001", "000").elisions(0), 1);
        Due.is("whatever it costs", byLaw("costs 9 if as<2;costs 0 if as=2", "any any or any", "001", "000").elisions(0), 0);
        Due.is("19", with("any", Texts.repeat("001", " ", 20).split(" ")).elisions(0), 19);
        Due.is("it takes none", with("any", "000", "000").elisions(0), NONE);
        Due.is("an empty line", with("cut").elisions(0), 0);

        Due.by("III", "To MEND: the fewest SYLLABLES that would be READ as 0 or 1, as which they CAN not be, in a row of v (2 only as they CAN be) that it would TAKE");
        Due.is("none", with("long short", "100", "000").mend(0), 0);
        Due.is("one", with("long short", "000", "000").mend(0), 1);
        Due.is("both", with("long short", "000", "100").mend(0), 2);
        Due.is("any is never to be mended", with("any any", "000", "100").mend(0), 0);
        Due.is("any is to be mended, where both are barred", byLaw("bars", "any any", "000", "100").mend(0), 2);
        Due.is("the fewest", with("long long long or short short long", "000", "000", "000").mend(0), 1);
        Due.is("2 only as it can be", with("long", "100", "100").mend(0), NONE);
        Due.is("2 as it can be is none to be mended", with("long", "001", "100").mend(0), 0);
        Due.is("not by any: too few steps", with("any", "000", "000").mend(0), NONE);
        Due.is("not by any: too many steps", with("any any any", "000", "000").mend(0), NONE);
        Due.is("not by any: a cut", with("any cut any", "000", "000").mend(0), NONE);
        Due.is("an empty line", with("cut").mend(0), 0);
        Due.is("an empty line, not by any", with("any").mend(0), NONE);
        Due.is("20", with("long times 9 long times 9 long long", Texts.repeat("000", " ", 20).split(" ")).mend(0), 20);
        Due.is("a cut, and one", with("long cut long", "010", "100").mend(0), 1);
        Due.is("whatever it costs", byLaw("costs 99 if as=1", "any", "200").mend(0), 0);
    }

    private static ScansionDesk byLaw(String law, String metre, String... syllables) {
        ScansionDesk d = with(metre, syllables);
        Texts.law(d, law);
        d.force(0);
        return d;
    }

    private static void reaching() {
        Due.by("III", "REACH: the most SYLLABLES, from the first on, that with some v as which they CAN be READ go along with STEPS of it from its beginning");
        Due.is("none", with("long", "000").reach(0), 0);
        Due.is("all", with("long short", "100", "000").reach(0), 2);
        Due.is("all, though steps are left", with("long short long", "100", "000").reach(0), 2);
        Due.is("not all, as steps are wanting", with("long", "100", "000").reach(0), 1);
        Due.is("up to the first that can't be", with("long long long", "100", "000", "100").reach(0), 1);
        Due.is("the most of all choices", with("long or long short or long short short short", "100", "000", "000", "100").reach(0), 3);
        Due.is("a cut stops it", with("long cut long", "100", "110").reach(0), 1);
        Due.is("a cut behind all that is left out", with("long cut", "100").reach(0), 1);
        Due.is("a cut ahead of all", with("cut long", "100").reach(0), 1);
        Due.is("elided ahead of the first step", with("long", "001", "000").reach(0), 1);
        Due.is("elided behind what it reaches", with("long", "100", "001", "001", "000").reach(0), 3);
        Due.is("the last one is not elided", with("long", "100", "001", "001").reach(0), 2);
        Due.is("barred", byLaw("bars if place=1", "any any any", "100", "001", "001").reach(0), 1);
        Due.is("an empty line", with("long").reach(0), 0);
        Due.is("an empty line, a cut", with("cut").reach(0), 0);
        Due.is("20", with("any times 9 any times 9 any times 9", Texts.repeat("200", " ", 20).split(" ")).reach(0), 20);
    }

    private static String lengths(String metre) {
        ScansionDesk d = new ScansionDesk();
        Texts.metre(d, metre);
        return d.length(0, 0) + " " + d.length(0, 1);
    }

    private static void lengthsOfLines() {
        Due.by("III", "SHORTEST, LONGEST: the fewest, the most that are READ as 0 or 1 in whatever line it could TAKE");
        Due.is("cuts alone", lengths("cut cut times 9"), "0 0");
        Due.is("one", lengths("any"), "1 1");
        Due.is("choices", lengths("cut or long or short short or any any any"), "0 3");
        Due.is("the first is the longest", lengths("any any any or any"), "1 3");
        Due.is("repeated", lengths("(cut or any any) times 9 long"), "1 19");
        Due.is("in brackets", lengths("((any or any any) times 2 or cut) times 3 (short or long)"), "1 13");
        Due.is("200", lengths("((any times 5)times 5)times 8"), "200 200");
        Due.is("0 to 200 steps", lengths("((any times 9)times 9)times 2 any times 9 any times 9 any times 9 any times 9 any or cut"), "0 199");
        ScansionDesk d = with("any any or any", "100");
        Due.is("whatever the line is", d.length(0, 1), 2);
        Texts.law(d, "bars");
        d.force(0);
        Due.is("whatever the law is", d.length(0, 1), 2);
    }

    private static void canBeAndListen() {
        Due.by("III", "IT CAN BE: METRES that TAKE a READING in which all that was HEARD is so");
        ScansionDesk d = Desks.of("201", "200");
        Texts.metre(d, "any any");
        Texts.metre(d, "long any");
        Texts.metre(d, "any");
        Texts.metre(d, "long long long");
        Due.is("nothing was heard", d.canBe(), 0b0111);
        d.heard(0, 2);
        Due.is("elided", d.canBe(), 0b0100);
        d.heard(1, 1);
        Due.is("and long", d.canBe(), 0b0100);
        d.heard(1, 1);
        Due.is("twice the same", d.canBe(), 0b0100);
        d.heard(1, 0);
        Due.is("twice otherwise", d.canBe(), 0);
        Due.is("fits is as it was", d.fits(), 0b0111);
        d.forget();
        d.heard(1, 2);
        Due.is("as which it can't be read", d.canBe(), 0);
        d.forget();
        d.heard(0, 0);
        Due.is("short", d.canBe(), 0b0001);
        d.forget();
        d.heard(2, 0);
        Due.is("one that is not there: none is so", d.canBe(), 0);
        d.syllable(2, 0, 0);
        Due.is("it is there now", d.canBe(), 0b0011);

        Due.by("III", "To LISTEN at: the SYLLABLE as which in the BEST READINGS of these (whatever was HEARD) the most are READ alike that are as few as can be; the lowest");
        ScansionDesk e = Desks.of("200", "200", "200");
        Due.is("no metres", e.listen(0), NONE);
        Texts.metre(e, "short short short");
        Due.is("one metre: the lowest", e.listen(0), 0);
        Due.is("one metre", e.listen(1), 1);
        Texts.metre(e, "short short short");
        Due.is("two alike: the lowest", e.listen(0), 0);
        Due.is("two alike", e.listen(1), 2);
        Texts.metre(e, "short long long");
        Due.is("two of three: the lower of two", e.listen(0), 1);
        Due.is("two of three", e.listen(1), 2);
        Texts.metre(e, "short short long");
        Due.is("two of four at the last", e.listen(0), 2);
        Due.is("two of four", e.listen(1), 2);
        Texts.metre(e, "long long");
        Due.is("one that takes none is none of these", e.listen(0), 2);
        e.heard(1, 1);
        Due.is("one is left by what was heard", e.listen(0), 0);
        Due.is("one", e.listen(1), 1);
        Texts.metre(e, "any any any");
        Due.is("best, whatever was heard", e.listen(0), 1);
        Due.is("one alike", e.listen(1), 1);
    }

    private static void fewSlip() {
        Due.by("III", "FEW: the chance, of 1,000,000,000,000 parts, that of n syllables, each of which slips in SLIPS of ten, fewer than k do");
        ScansionDesk d = new ScansionDesk();
        Due.is("of none", d.few(1, 0), 1000000000000L);
        Due.is("of none, fewer than 20", d.few(20, 0), 1000000000000L);
        Due.is("of one", d.few(1, 1), 900000000000L);
        Due.is("of one, fewer than 2", d.few(2, 1), 1000000000000L);
        d.terms(1, 0);
        Due.is("never", d.few(1, 99), 1000000000000L);
        d.terms(1, 10);
        Due.is("always, of none", d.few(1, 0), 1000000000000L);
        Due.is("always, of one", d.few(1, 1), 0);
        Due.is("always, of 19, fewer than 20", d.few(20, 19), 1000000000000L);
        Due.is("always, of 20, fewer than 20", d.few(20, 20), 0);
        Due.is("always, of 99", d.few(20, 99), 0);

        Due.by("III", "syllable by syllable, by how many did, each part times the rest by ten and times SLIPS by ten (one more), both cut; of those below k all together");
        d.terms(1, 1);
        Due.is("12, nothing is cut yet", d.few(1, 12), 282429536481L);
        Due.is("13, cut", d.few(1, 13), 254186582832L);
        Due.is("15, cut each time", d.few(1, 15), 205891132093L);
        d.terms(1, 5);
        for (int k = 1; k <= 20; k++) {
            for (int n : new int[] {0, 1, 19, 20, 21, 22, 98, 99}) {
                Due.is("few(" + k + ", " + n + ")", d.few(k, n), few(5, k, n));
            }
        }
        Due.is("two halves are cut one by one", d.few(2, 22), 5483625L);
        d.terms(1, 9);
        Due.is("the highest", d.few(20, 99), few(9, 20, 99));
        d.terms(1, 3);
        Due.is("30 of 99", d.few(20, 99), few(3, 20, 99));
    }

    private static long few(int slips, int k, int n) {
        long[] parts = new long[n + 2];
        parts[0] = 1000000000000L;
        for (int s = 0; s < n; s++) {
            long[] next = new long[n + 2];
            for (int j = 0; j <= s; j++) {
                next[j] += parts[j] * (10 - slips) / 10;
                next[j + 1] += parts[j] * slips / 10;
            }
            parts = next;
        }
        long sum = 0;
        for (int j = 0; j < k && j < parts.length; j++) {
            sum += parts[j];
        }
        return sum;
    }

    private static void compared() {
        Due.by("III", "COMPARED: what the BEST READING of a METRE COSTS by a LAW in place of that in FORCE (NONE: none)");
        ScansionDesk d = with("long any", "000", "200");
        Texts.law(d, "allows;costs 20 if as=1");
        Texts.law(d, "allows if place=0;costs 30");
        Texts.law(d, "bars if place=1");
        Due.is("none", d.compare(NONE, 0), NONE);
        Due.is("the first", d.compare(0, 0), 20);
        Due.is("the second", d.compare(1, 0), 60);
        Due.is("one by which it takes none", d.compare(2, 0), NONE);
        d.force(1);
        Due.is("in place of that in force: none", d.compare(NONE, 0), NONE);
        Due.is("in place of that in force", d.compare(0, 0), 20);
        Due.is("that in force", d.compare(1, 0), 60);
        Due.is("that in force stays", d.best(0, NONE), 60);
        Due.is("that in force stays", d.count(11), 1);
    }

    public static void main(String[] args) {
        takesIt();
        cuts();
        weighEndMeetDay();
        bestReading();
        elisionsAndMending();
        reaching();
        lengthsOfLines();
        canBeAndListen();
        fewSlip();
        compared();
        Due.tell();
    }
}
