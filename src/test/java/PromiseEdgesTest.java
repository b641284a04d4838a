/** Each sentence of the document's Promises 1 to 38 that names a boundary case. */
public final class PromiseEdgesTest {
    private static final int NONE = ScansionDesk.NONE;

    private static int rowOf(ScansionDesk d, String text) {
        Texts.put(d, text);
        return d.row();
    }

    private static void emptyLine() {
        Due.by("Promise 1", "An empty line.");
        ScansionDesk d = new ScansionDesk();
        int[] counts = {0, 0, 0, 0, 0, 0, 0, 0, 0, 0, 0, NONE, 0, 1, 0};
        for (int k = 0; k < counts.length; k++) {
            Due.is("count(" + k + ")", d.count(k), counts[k]);
        }
        Due.is("of", d.of(0, 0), NONE);
        Due.is("fits", d.fits(), 0);
        Due.is("can be", d.canBe(), 0);
        Due.is("listen", d.listen(0), NONE);
        Due.is("mutes", d.mutes(), 0);
        Due.is("fault", d.fault(), NONE);
        Due.is("stopped", d.stopped(), NONE);
        Due.is("drawn", d.drawn(0, 0), NONE);
        Due.is("status", d.status(), 0);
        Due.is("end", d.end(0), 0);
        Due.is("forget", d.forget(), 0);
        Due.is("none of these is refused", Desks.refusals(d), "0 0 0 0 0");
        ScansionDesk other = Desks.of("211");
        Due.is("another object has its own line", d.count(0) + other.count(0), 1);
        Due.is("the constant", NONE, -1);
    }

    private static void syllableAndOf() {
        Due.by("Promise 2", "A SYLLABLE behind the others: its number. -1 (ENDS, MEETS are 1, 0); -5.");
        ScansionDesk d = new ScansionDesk();
        Due.is("ends 2", d.syllable(0, 2, 0), -1);
        Due.is("meets 2", d.syllable(0, 0, 2), -1);
        Due.is("weight 3", d.syllable(3, 0, 0), -1);
        Due.is("its number", d.syllable(2, 1, 0), 0);
        Due.is("its number", d.syllable(2, 0, 1), 1);
        for (int k = 2; k < 20; k++) {
            d.syllable(1, 1, 1);
        }
        Due.is("no room", d.syllable(1, 1, 1), -5);
        Due.is("no room, ends -1", d.syllable(1, -1, 1), -1);
        Due.is("refused", Desks.refusals(d), "4 0 0 1 0");

        Due.by("Promise 3", "Of a SYLLABLE WEIGHT (what 0), ENDS (1), MEETS (2), whether it CAN be READ as v (3 + v: 1, 0), what that COSTS, CAN it be or not (6 + v). NONE.");
        ScansionDesk e = Desks.of("011", "100");
        int[] first = {0, 1, 1, 1, 0, 1, 0, 1, 1};
        int[] last = {1, 0, 0, 0, 1, 0, 1, 0, 1};
        for (int what = 0; what < 9; what++) {
            Due.is("of(0, " + what + ")", e.of(0, what), first[what]);
            Due.is("of(1, " + what + ")", e.of(1, what), last[what]);
            Due.is("no syllable", e.of(2, what), NONE);
            Due.is("no syllable below", e.of(-1, what), NONE);
            for (int far : Desks.FAR_OFF) {
                Due.is("no syllable " + far, e.of(far, what), NONE);
            }
        }
        Due.is("what 9", e.of(0, 9), NONE);
        Due.is("what -1", e.of(0, -1), NONE);
        for (int far : Desks.FAR_OFF) {
            Due.is("what " + far, e.of(0, far), NONE);
        }
        Due.is("it refuses nothing", Desks.refusals(e), "0 0 0 0 0");
        Texts.law(e, "bars;costs 42");
        e.force(0);
        Due.is("it can't be", e.of(1, 4), 0);
        Due.is("what it costs, can it be or not", e.of(1, 7), 42);
    }

    private static void termsFeedEnd() {
        Due.by("Promise 4", "A TERM: what it was. -1.");
        ScansionDesk d = new ScansionDesk();
        Due.is("a day", d.terms(0, 999), 0);
        Due.is("what it was", d.terms(0, 3), 999);
        Due.is("what it is", d.terms(0, 3), 3);
        for (int what : new int[] {-1, 3, Integer.MIN_VALUE, Integer.MAX_VALUE}) {
            Due.is("no term " + what, d.terms(what, 0), -1);
        }
        for (int far : Desks.FAR_OFF) {
            Due.is("mood " + far, d.terms(2, far), -1);
        }
        Due.is("refused ones leave it", Desks.terms(d), "3 1 0");

        Due.by("Promise 5", "Twenty bytes come behind the TAPE, four of each number, the highest first: how many it has. NONE, if there would be more than 400.");
        ScansionDesk e = new ScansionDesk();
        Due.is("twenty", e.feed(0x616e7920, 0x63757420, 0x6c6f6e67, 0x2073686f, 0x72742020), 20);
        e.end(18);
        Due.is("four of each, the highest first", e.metre(), 0);
        Due.is("any cut long short", e.steps(0), 4);
        Due.is("numbers below 0 are bytes", e.feed(-1, Integer.MIN_VALUE, Integer.MAX_VALUE, -256, 0), 20);
        Due.is("a row of them: one that can be", e.row(), 1);
        Due.is("and six that can't", e.mutes(), 6);
        e.feed(0x02010100, 0x00000101, 0x01020000, 0x01000101, 0x00010202);
        Due.is("a row", e.row(), 6);
        Due.is("bytes in their order", Desks.line(e), "000 211 000 111 200 101 101");
        for (int k = 1; k <= 20; k++) {
            Due.is("behind the tape", e.feed(k, k, k, k, k), 20 * k);
        }
        Due.is("420", e.feed(1, 1, 1, 1, 1), NONE);
        Due.is("400 are kept", e.count(5), 400);
        e.end(381);
        Due.is("401", e.feed(1, 1, 1, 1, 1), NONE);
        Due.is("381 are kept", e.count(5), 381);
        e.end(380);
        Due.is("400", e.feed(1, 1, 1, 1, 1), 400);
        Due.is("NONE is no refusal", Desks.refusals(e) + " " + e.status(), "0 0 0 0 0 0");

        Due.by("Promise 6", "The TAPE has its first n bytes alone: n. NONE, if it has not so many, or n is below 0.");
        ScansionDesk f = new ScansionDesk();
        Due.is("none of none", f.end(0), 0);
        Due.is("one of none", f.end(1), NONE);
        f.feed(0x616e7920, 0x78202020, 0, 0, 0);
        Due.is("21 of 20", f.end(21), NONE);
        Due.is("20 of 20", f.end(20), 20);
        Due.is("-1", f.end(-1), NONE);
        for (int far : Desks.FAR_OFF) {
            Due.is("end " + far, f.end(far), NONE);
        }
        Due.is("20 are kept", f.count(5), 20);
        Due.is("its first three", f.end(3), 3);
        Due.is("four of three", f.end(4), NONE);
        Due.is("these three", f.metre(), 0);
        f.feed(0, 0, 0, 0, 0);
        Due.is("0 of 20", f.end(0), 0);
        Due.is("it is empty", f.row(), -6);
        f.feed(0x616e7978, 0x78787878, 0, 0, 0);
        f.end(3);
        f.feed(0x20616e79, 0, 0, 0, 0);
        f.end(7);
        Due.is("what comes then stands behind them", f.metre(), 1);
        Due.is("any any", f.steps(1), 2);
    }

    private static void rowAndMutes() {
        Due.by("Promise 7", "A ROW, the TAPE is empty then: how many SYLLABLES came. -6 the TAPE is empty.");
        ScansionDesk d = new ScansionDesk();
        Due.is("empty", d.row(), -6);
        Due.is("mutes of none", d.mutes(), 0);
        Due.is("one byte", rowOf(d, "\0"), 0);
        Due.is("its tape", d.count(5), 0);
        Due.is("empty then", d.row(), -6);
        Due.is("none that came is no refusal", Desks.refusals(d), "0 0 0 0 2");
        Due.is("all twenty", rowOf(d, Texts.repeat("\1\0\0", "", 20)), 20);
        Due.is("none has room", rowOf(d, "\1\0\0\1\0\0"), 0);
        Due.is("its tape", d.count(5), 0);

        Due.by("Promise 8", "How many MUTES the latest row() had that was not REFUSED (0 ahead of any).");
        Due.is("two", d.mutes(), 2);
        d.row();
        Due.is("refused, two", d.mutes(), 2);
        rowOf(d, "xyzx");
        d.row();
        Due.is("two more", d.mutes(), 2);
        rowOf(d, "x");
        Due.is("one", d.mutes(), 1);
        ScansionDesk e = new ScansionDesk();
        rowOf(e, "\0\0\0x");
        rowOf(e, "\0\0\0");
        Due.is("the latest had none", e.mutes(), 0);
    }

    private static void metreLawOrders() {
        Due.by("Promise 9", "The TAPE, which is empty then, becomes a METRE: its number. -5 (ahead of reading it; the TAPE is empty then, too); -6 (blanks alone: FAULT at the end). It leaves what can be undone.");
        ScansionDesk d = Desks.of("000");
        d.ends(0);
        Due.is("empty", d.metre(), -6);
        Due.is("at the end, which is 0", d.fault(), 0);
        Due.is("blanks alone", Texts.metre(d, "     "), -6);
        Due.is("at the end, which is 5", d.fault(), 5);
        Due.is("its tape", d.count(5), 0);
        for (int k = 0; k < 6; k++) {
            Due.is("its number", Texts.metre(d, "any"), k);
            Due.is("its tape", d.count(5), 0);
        }
        Texts.metre(d, "short");
        Due.is("-5", d.status(), -5);
        Due.is("its tape", d.count(5), 0);
        Due.is("what can be undone", Desks.undone(d), "1");

        Due.by("Promise 10", "The TAPE, which is empty then, becomes a LAW: its number. -5, -6 (as for metre()). It leaves what can be undone.");
        d.meets(0);
        Due.is("empty", d.law(), -6);
        Due.is("at the end, which is 0", d.fault(), 0);
        Due.is("blanks alone", Texts.law(d, "   "), -6);
        Due.is("at the end, which is 3", d.fault(), 3);
        Due.is("its tape", d.count(5), 0);
        for (int k = 0; k < 6; k++) {
            Due.is("its number", Texts.law(d, "bars if day>9"), k);
            Due.is("its tape", d.count(5), 0);
        }
        Texts.law(d, "bars x");
        Due.is("-5", d.status(), -5);
        Due.is("its tape", d.count(5), 0);
        Due.is("not read", d.fault(), NONE);
        Due.is("what can be undone", Desks.undone(d), "2");

        Due.by("Promise 11", "ORDERS, the TAPE is empty then: how many were run. -3 one can't be; -6 (as for metre()).");
        Due.is("empty", d.orders(), -6);
        Due.is("at the end, which is 0", d.fault(), 0);
        Due.is("blanks alone", Texts.orders(d, "       "), -6);
        Due.is("at the end, which is 7", d.fault(), 7);
        Due.is("its tape", d.count(5), 0);
        Due.is("none were run", Texts.orders(d, "pass if 1=0"), 0);
        Due.is("its tape", d.count(5), 0);
        Due.is("one can't be", Texts.orders(d, "pass;end 1"), -3);
        Due.is("its tape", d.count(5), 0);
        Due.is("all were run", Texts.orders(d, "end 0 times 20;pass times 20"), 40);
        Due.is("refused (twice there was no more to undo)", Desks.refusals(d), "0 0 3 2 6");
    }

    private static void faultAndStopped() {
        Due.by("Promise 12", "FAULT of the latest metre(), law(), orders() that read a TEXT: its place; NONE without.");
        ScansionDesk d = new ScansionDesk();
        Due.is("ahead of any", d.fault(), NONE);
        Texts.metre(d, "any x");
        Due.is("of metre()", d.fault(), 4);
        Texts.law(d, "allows x");
        Due.is("of law()", d.fault(), 7);
        Texts.orders(d, "pass times x");
        Due.is("of orders()", d.fault(), 11);
        Texts.put(d, "xyz");
        d.row();
        Due.is("row() reads no text", d.fault(), 11);
        Texts.orders(d, "end 5");
        Due.is("orders that can't be are without", d.fault(), NONE);
        for (int k = 0; k < 6; k++) {
            Texts.metre(d, "any");
            Texts.law(d, "bars");
        }
        Texts.orders(d, "x");
        Due.is("of orders()", d.fault(), 0);
        Texts.metre(d, "any x");
        Due.is("a metre for which there is no room is not read", d.fault(), 0);
        Texts.law(d, "bars x");
        Due.is("nor such a law", d.fault(), 0);
        Texts.orders(d, "pass");
        Due.is("without", d.fault(), NONE);
        ScansionDesk e = new ScansionDesk();
        Texts.metre(e, "x");
        Texts.metre(e, "any");
        Due.is("a metre is without", e.fault(), NONE);
        Texts.law(e, "x");
        Texts.law(e, "bars");
        Due.is("a law is without", e.fault(), NONE);

        Due.by("Promise 13", "Which CLAUSE (0 on) of the latest orders() could not be. NONE (that was done, or REFUSED by -6; ahead of any).");
        ScansionDesk f = Desks.of("000");
        Due.is("ahead of any", f.stopped(), NONE);
        Texts.orders(f, "end 1");
        Due.is("the first", f.stopped(), 0);
        Texts.orders(f, "end 0;end 0;end 1;end 2");
        Due.is("the third", f.stopped(), 2);
        Texts.metre(f, "x");
        Due.is("metre() leaves it", f.stopped(), 2);
        Texts.orders(f, "x");
        Due.is("by -6", f.stopped(), NONE);
        Texts.orders(f, Texts.repeat("end 0", ";", 11) + ";end 1");
        Due.is("the twelfth", f.stopped(), 11);
        Texts.orders(f, "end 0");
        Due.is("that was done", f.stopped(), NONE);
        Texts.orders(f, "end 0 times 2;weigh 0 to done-1 times 2");
        Due.is("done, too", f.stopped(), NONE);
        Texts.orders(f, "end 1");
        f.orders();
        Due.is("no text: by -6", f.stopped(), NONE);
        Texts.orders(f, "end 0;weigh 0 to done-1 times 4");
        Due.is("the fourth turn of the second", f.stopped(), 1);
    }

    private static void forceAndChanges() {
        Due.by("Promise 14", "A LAW is in FORCE (NONE: none): which was. -2. It leaves what can be undone.");
        ScansionDesk d = Desks.of("000", "111");
        d.ends(0);
        Due.is("none there", d.force(0), -2);
        Due.is("none, as it is", d.force(NONE), NONE);
        Due.is("that is no refusal", d.status(), 0);
        Texts.law(d, "bars");
        Due.is("the first", d.force(0), NONE);
        Due.is("the first again", d.force(0), 0);
        Due.is("behind it", d.force(1), -2);
        Due.is("-2", d.force(-2), -2);
        for (int far : Desks.FAR_OFF) {
            Due.is("force " + far, d.force(far), -2);
        }
        Due.is("it stays", d.count(11), 0);
        Due.is("none", d.force(NONE), 0);
        Due.is("none then", d.count(11), NONE);
        Due.is("what can be undone", Desks.undone(d), "1");

        Due.by("Promise 15", "To WEIGH: what the WEIGHT was. -1; -2; -3 it is so.");
        Due.is("it is so", d.weigh(0, 0), -3);
        Due.is("what it was", d.weigh(0, 2), 0);
        Due.is("what it was", d.weigh(0, 1), 2);
        Due.is("it is so", d.weigh(0, 1), -3);
        Due.is("weight 3", d.weigh(0, 3), -1);
        Due.is("weight -1", d.weigh(0, -1), -1);
        Due.is("no syllable", d.weigh(2, 0), -2);
        Due.is("no syllable below", d.weigh(-1, 0), -2);
        for (int far : Desks.FAR_OFF) {
            Due.is("weight " + far, d.weigh(0, far), -1);
            Due.is("syllable " + far, d.weigh(far, 0), -2);
            Due.is("both " + far, d.weigh(far, far), -1);
        }
        Due.is("refused ones are not to be undone", d.count(4), 2);
        Due.is("the line", Desks.line(d), "100 111");

        Due.by("Promise 16", "To END: whether it ENDS a word then (1, 0). -2.");
        Due.is("it ends", d.ends(0), 1);
        Due.is("no more", d.ends(0), 0);
        Due.is("no more", d.ends(1), 0);
        Due.is("no syllable", d.ends(2), -2);
        Due.is("no syllable below", d.ends(-1), -2);
        Due.by("Promise 17", "To MEET: whether it MEETS then (1, 0). -2.");
        Due.is("it meets", d.meets(0), 1);
        Due.is("no more", d.meets(0), 0);
        Due.is("no more", d.meets(1), 0);
        Due.is("no syllable", d.meets(2), -2);
        Due.is("no syllable below", d.meets(-1), -2);
        for (int far : Desks.FAR_OFF) {
            Due.is("ends " + far, d.ends(far), -2);
            Due.is("meets " + far, d.meets(far), -2);
        }
        Due.is("the line", Desks.line(d), "100 100");
        Due.is("an empty line", new ScansionDesk().ends(0), -2);
        Due.is("an empty line", new ScansionDesk().meets(0), -2);

        Due.by("Promise 18", "A DAY: how many METRES TAKE a READING (ahead of it). -3.");
        ScansionDesk e = Desks.of("100");
        Due.is("no metres", e.pass(), 0);
        for (int k = 0; k < 6; k++) {
            Texts.metre(e, "long");
        }
        Texts.law(e, "bars if day=999");
        e.force(0);
        e.terms(0, 998);
        Due.is("six, ahead of the last day", e.pass(), 6);
        Due.is("none on it", e.fits(), 0);
        Due.is("at 999", e.pass(), -3);
        Due.is("it stays", e.count(12), 999);
        Due.is("to undo", e.count(4), 1);
    }

    private static void undoing() {
        Due.by("Promise 19", "The latest weigh(), ends(), meets(), pass() (by ORDERS, too; 16 are kept) is undone (WEIGHTS, ENDS, MEETS, DAY are as they were): 0 .. 3. -3 there is none");
        ScansionDesk d = Desks.of("000", "000", "000");
        Due.is("none", d.undo(), -3);
        d.weigh(0, 2);
        d.ends(1);
        d.meets(2);
        d.pass();
        Due.is("all", Desks.line(d) + " " + d.count(12), "200 010 001 1");
        Due.is("the day", d.undo(), 3);
        Due.is("as it was", Desks.line(d) + " " + d.count(12), "200 010 001 0");
        Due.is("meets", d.undo(), 2);
        Due.is("as it was", Desks.line(d), "200 010 000");
        Due.is("ends", d.undo(), 1);
        Due.is("as it was", Desks.line(d), "200 000 000");
        Due.is("weigh", d.undo(), 0);
        Due.is("as it was", Desks.line(d), "000 000 000");
        Due.is("no more", d.undo(), -3);
        Due.is("no more", d.undo(), -3);
        d.pass();
        for (int k = 0; k < 15; k++) {
            d.meets(1);
        }
        Due.is("16", d.count(4), 16);
        Due.is("with the day", Desks.undone(d), "2222222222222223");
        d.pass();
        for (int k = 0; k < 16; k++) {
            d.weigh(k % 3, 1 + k / 3 % 2);
        }
        Due.is("16 of 17", d.count(4), 16);
        Due.is("without the day", Desks.undone(d), "0000000000000000");
        Due.is("the day stands", d.count(12), 1);
        Due.is("the line is as it was", Desks.line(d), "000 000 000");
        for (int k = 0; k < 20; k++) {
            d.weigh(k % 3, (k / 3 + 1) % 3);
        }
        for (int k = 19; k >= 4; k--) {
            d.undo();
            Due.is("what the weight of " + k % 3 + " was", d.of(k % 3, 0), k / 3 % 3);
        }
        Due.is("no more", d.undo(), -3);
        Due.is("four stand", Desks.line(d), "200 100 100");
        d.weigh(0, 0);
        d.weigh(1, 0);
        d.weigh(2, 0);
        d.terms(0, 1);
        Texts.orders(d, "weigh 0 to 1;end 0;meet 0;pass;end 1 times 13");
        Due.is("16 of 17 by orders", Desks.undone(d), "1111111111111321");
        Due.is("the first stands", Desks.line(d), "100 000 000");
        Texts.orders(d, "end 1 times 20;weigh 1 to 2");
        Due.is("16 of 21 by one text", Desks.undone(d), "0111111111111111");
        Due.is("five stand", Desks.line(d), "100 010 000");
        d.ends(1);
        d.undo();
        Due.is("what was undone is not undone again", d.undo(), -3);

        Due.by("Promise 19", "(nothing that was ahead of a syllable(), terms(), row(), back() that was not REFUSED can be undone)");
        ScansionDesk e = Desks.of("000");
        e.image(0);
        String[] calls = {"syllable", "terms", "row", "row of mutes", "back"};
        for (String call : calls) {
            e.ends(0);
            e.pass();
            switch (call) {
                case "syllable" -> e.syllable(0, 0, 0);
                case "terms" -> e.terms(2, 0);
                case "row" -> rowOf(e, "\0\0\0");
                case "row of mutes" -> rowOf(e, "x");
                default -> e.back(0);
            }
            Due.is(call, e.undo(), -3);
        }
        ScansionDesk f = Desks.full("000");
        f.ends(0);
        f.pass();
        f.syllable(0, 0, 0);
        f.syllable(3, 0, 0);
        f.terms(0, 1000);
        f.row();
        f.back(0);
        f.back(2);
        Due.is("refused", Desks.refusals(f), "3 1 0 1 1");
        f.image(0);
        f.forget();
        f.heard(0, 0);
        f.weeks(1, 1);
        f.weigh(0, 0);
        f.ends(20);
        Texts.orders(f, "end 20");
        Texts.orders(f, "x");
        Texts.metre(f, "any");
        Texts.law(f, "bars");
        f.force(0);
        Due.is("these leave it", Desks.undone(f), "31");
    }

    private static void askedOfMetres() {
        ScansionDesk d = Desks.of("100", "000");
        Texts.metre(d, "long short");
        Texts.metre(d, "short");
        int[] none = {-1, 2, 5, 6, Integer.MIN_VALUE, Integer.MAX_VALUE};
        Due.by("Promise 20", "STEPS of a METRE. NONE.");
        Due.is("of one", d.steps(0), 2);
        for (int m : none) {
            Due.is("steps(" + m + ")", d.steps(m), NONE);
        }
        Due.by("Promise 21", "The BEST READING: what it COSTS (i NONE), as what SYLLABLE i is READ. NONE (it TAKES none; no such METRE, SYLLABLE).");
        Due.is("its cost", d.best(0, NONE), 0);
        Due.is("the first", d.best(0, 0), 1);
        Due.is("the last", d.best(0, 1), 0);
        Due.is("behind it", d.best(0, 2), NONE);
        Due.is("below NONE", d.best(0, -2), NONE);
        Due.is("it takes none", d.best(1, NONE), NONE);
        Due.is("it takes none, a syllable", d.best(1, 0), NONE);
        for (int m : none) {
            Due.is("best(" + m + ")", d.best(m, NONE), NONE);
            Due.is("best(" + m + ")", d.best(m, 0), NONE);
        }
        for (int far : Desks.FAR_OFF) {
            Due.is("best(0, " + far + ")", d.best(0, far), NONE);
        }
        Due.by("Promise 22", "ELISIONS. NONE (it TAKES none; no such METRE).");
        Due.is("of one", d.elisions(0), 0);
        Due.is("it takes none", d.elisions(1), NONE);
        for (int m : none) {
            Due.is("elisions(" + m + ")", d.elisions(m), NONE);
        }
        Due.by("Promise 23", "To MEND: how few. NONE (not by any; no such METRE).");
        Due.is("of one", d.mend(0), 0);
        Due.is("not by any", d.mend(1), NONE);
        for (int m : none) {
            Due.is("mend(" + m + ")", d.mend(m), NONE);
        }
        Due.by("Promise 24", "REACH. NONE (no such METRE).");
        Due.is("of one", d.reach(0), 2);
        Due.is("of one that takes none", d.reach(1), 0);
        for (int m : none) {
            Due.is("reach(" + m + ")", d.reach(m), NONE);
        }
        Due.by("Promise 25", "SHORTEST (what 0), LONGEST (1). NONE (no such METRE).");
        Due.is("shortest", d.length(0, 0), 2);
        Due.is("longest", d.length(0, 1), 2);
        Due.is("what 2", d.length(0, 2), NONE);
        Due.is("what -1", d.length(0, -1), NONE);
        for (int m : none) {
            Due.is("length(" + m + ")", d.length(m, 0), NONE);
            Due.is("length(" + m + ")", d.length(m, 1), NONE);
        }
        for (int far : Desks.FAR_OFF) {
            Due.is("what " + far, d.length(0, far), NONE);
        }
        Due.is("NONE is no refusal", Desks.refusals(d) + " " + d.status(), "0 0 0 0 0 0");
        Due.by("Promise 26", "METRES that TAKE a READING, as bits.");
        Due.is("the first", d.fits(), 0b01);
        for (int k = 2; k < 6; k++) {
            Texts.metre(d, "any any");
        }
        Due.is("five of six", d.fits(), 0b111101);
        d.syllable(0, 0, 0);
        Due.is("none", d.fits(), 0);
        Due.is("of no metres", new ScansionDesk().fits(), 0);
    }

    private static void hearing() {
        Due.by("Promise 27", "HEARD: how often there was. -1 (p 0 .. 19, v); -5. It leaves what can be undone.");
        ScansionDesk d = Desks.of("201", "200");
        Texts.metre(d, "any any");
        d.pass();
        Due.is("p 20", d.heard(20, 0), -1);
        Due.is("p -1", d.heard(-1, 0), -1);
        Due.is("v 3", d.heard(0, 3), -1);
        Due.is("v -1", d.heard(0, -1), -1);
        for (int far : Desks.FAR_OFF) {
            Due.is("p " + far, d.heard(far, 0), -1);
            Due.is("v " + far, d.heard(0, far), -1);
        }
        Due.is("none yet", d.count(2), 0);
        for (int k = 1; k <= 6; k++) {
            Due.is("how often", d.heard(0, 0), k);
        }
        Due.is("-5", d.heard(0, 0), -5);
        Due.is("-1 ahead of it", d.heard(0, 3), -1);
        Due.is("what can be undone", Desks.undone(d), "3");

        Due.by("Promise 28", "HEARD is nothing then: how often there was.");
        Due.is("six", d.forget(), 6);
        Due.is("nothing", d.forget(), 0);
        Due.is("nothing", d.count(2), 0);
        Due.is("there is room again", d.heard(19, 2), 1);

        Due.by("Promise 29", "IT CAN BE, as bits (a SYLLABLE that is not there: none is so).");
        Due.is("not there", d.canBe(), 0);
        d.forget();
        Due.is("nothing was heard", d.canBe(), 1);
        d.heard(2, 0);
        Due.is("just behind the last", d.canBe(), 0);
        d.forget();
        d.heard(1, 0);
        Due.is("the last", d.canBe(), 1);
        ScansionDesk e = new ScansionDesk();
        Texts.metre(e, "cut");
        Due.is("an empty line", e.canBe(), 1);
        e.heard(0, 0);
        Due.is("an empty line, one not there", e.canBe(), 0);

        Due.by("Promise 30", "To LISTEN at: the SYLLABLE (what 0), how many METRES are left at most (1). NONE (it can be none; no SYLLABLES).");
        e.forget();
        Due.is("no syllables", e.listen(0), NONE);
        Due.is("no syllables", e.listen(1), NONE);
        Due.is("one", d.listen(0), 0);
        Due.is("one", d.listen(1), 1);
        Due.is("what 2", d.listen(2), NONE);
        Due.is("what -1", d.listen(-1), NONE);
        for (int far : Desks.FAR_OFF) {
            Due.is("what " + far, d.listen(far), NONE);
        }
        d.heard(1, 1);
        Due.is("it can be none", d.listen(0), NONE);
        Due.is("it can be none", d.listen(1), NONE);
        ScansionDesk f = Desks.full("200");
        for (int k = 0; k < 6; k++) {
            Texts.metre(f, "any times 9 any times 9 any " + (k < 3 ? "long" : "short"));
        }
        Due.is("the last syllable", f.listen(0), 19);
        Due.is("three of six", f.listen(1), 3);
    }

    private static void fewAndCompare() {
        Due.by("Promise 31", "FEW, k 1 .. 20, n 0 .. 99. NONE.");
        ScansionDesk d = new ScansionDesk();
        int[][] none = {{0, 0}, {21, 0}, {1, -1}, {1, 100}, {-1, 0}, {Integer.MIN_VALUE, 0}, {Integer.MAX_VALUE, 0},
            {1, Integer.MIN_VALUE}, {1, Integer.MAX_VALUE}};
        for (int[] n : none) {
            Due.is("few(" + n[0] + ", " + n[1] + ")", d.few(n[0], n[1]), NONE);
        }
        Due.is("k 1, n 0", d.few(1, 0), 1000000000000L);
        Due.is("k 20, n 0", d.few(20, 0), 1000000000000L);
        Due.is("k 1, n 2", d.few(1, 2), 810000000000L);
        Due.is("k 2, n 2", d.few(2, 2), 990000000000L);
        Due.is("k 3, n 2", d.few(3, 2), 1000000000000L);
        Due.is("n 99 is told", d.few(20, 99) > 990000000000L ? 1 : 0, 1);
        Due.is("NONE is no refusal", Desks.refusals(d) + " " + d.status(), "0 0 0 0 0 0");

        Due.by("Promise 32", "COMPARED. NONE (no such LAW, METRE; it TAKES none).");
        ScansionDesk e = Desks.of("100");
        Texts.metre(e, "long");
        Texts.metre(e, "short");
        Texts.law(e, "costs 8");
        Due.is("none", e.compare(NONE, 0), 0);
        Due.is("a law", e.compare(0, 0), 8);
        Due.is("no law 1", e.compare(1, 0), NONE);
        Due.is("no law -2", e.compare(-2, 0), NONE);
        Due.is("no metre 2", e.compare(0, 2), NONE);
        Due.is("no metre -1", e.compare(0, -1), NONE);
        Due.is("it takes none", e.compare(0, 1), NONE);
        for (int far : Desks.FAR_OFF) {
            Due.is("law " + far, e.compare(far, 0), NONE);
            Due.is("metre " + far, e.compare(0, far), NONE);
        }
        Due.is("NONE is no refusal", Desks.refusals(e) + " " + e.status(), "0 0 0 0 0 0");
    }

    private static void weeksAndDrawn() {
        Due.by("Promise 33", "WEEKS, kept as the latest: how many METRES took a READING on all DAYS together. -1; -3 there are no SYLLABLES.");
        ScansionDesk d = new ScansionDesk();
        Texts.metre(d, "cut");
        Due.is("no syllables", d.weeks(0, 1), -3);
        Due.is("no syllables, n 0", d.weeks(0, 0), -1);
        Due.is("nothing is kept", d.drawn(0, 0), NONE);
        d.syllable(0, 0, 0);
        Due.is("none takes it", d.weeks(0, 60), 0);
        for (int k = 1; k < 6; k++) {
            Texts.metre(d, "any");
        }
        Due.is("five on each of 60 days", d.weeks(1000000, 60), 300);
        Due.is("to undo: nothing", d.count(4), 0);
        Due.is("status", d.status(), 0);

        Due.by("Promise 34", "Behind the latest WEEKS of a SYLLABLE WEIGHT (what 0), ENDS (1), MEETS (2). NONE.");
        Due.is("what 3", d.drawn(0, 3), NONE);
        Due.is("what -1", d.drawn(0, -1), NONE);
        Due.is("no syllable 1", d.drawn(1, 0), NONE);
        Due.is("no syllable -1", d.drawn(-1, 0), NONE);
        for (int far : Desks.FAR_OFF) {
            Due.is("what " + far, d.drawn(0, far), NONE);
            Due.is("syllable " + far, d.drawn(far, 0), NONE);
        }
        String latest = Desks.drawn(d, 1);
        d.weeks(0, 61);
        d.weeks(-1, 5);
        Due.is("refused ones are not the latest", Desks.drawn(d, 1), latest);
        d.syllable(2, 1, 1);
        Due.is("a syllable that came behind it", d.drawn(1, 0), NONE);
        d.terms(0, 999);
        Due.is("weeks of no days", d.weeks(3, 60), 0);
        Due.is("the line as it stands", Desks.drawn(d, 2), "000 211");
        ScansionDesk e = Desks.of("100", "211");
        e.image(0);
        e.syllable(0, 1, 0);
        e.terms(0, 999);
        e.weeks(1, 1);
        e.back(0);
        Due.is("back() leaves it", Desks.drawn(e, 3), "100 211 010");
    }

    private static void imagesAndBack() {
        Due.by("Promise 35", "IMAGE k is kept: 0; -1.");
        ScansionDesk d = Desks.of("000");
        Due.is("-1", d.image(-1), -1);
        Due.is("2", d.image(2), -1);
        for (int far : Desks.FAR_OFF) {
            Due.is("image " + far, d.image(far), -1);
            Due.is("back " + far, d.back(far), -1);
        }
        Due.by("Promise 36", "BACK to IMAGE k: 0. -1; -2 it was not kept.");
        Due.is("0 was not kept", d.back(0), -2);
        Due.is("1 was not kept", d.back(1), -2);
        Due.is("-1", d.back(-1), -1);
        Due.is("2", d.back(2), -1);
        Due.is("1 is kept", d.image(1), 0);
        Due.is("0 was not kept", d.back(0), -2);
        d.ends(0);
        Due.is("back that is refused leaves what can be undone", d.back(0), -2);
        Due.is("1", d.count(4), 1);
        Due.is("back to 1", d.back(1), 0);
        Due.is("the line", Desks.line(d), "000");
        Due.is("0 is kept", d.image(0), 0);
        Due.is("back to 0", d.back(0), 0);
        ScansionDesk e = new ScansionDesk();
        Due.is("an empty line is kept", e.image(0), 0);
        Desks.add(e, "211");
        Due.is("back to it", e.back(0), 0);
        Due.is("no syllables", e.count(0), 0);
        Due.is("of none", e.of(0, 0), NONE);
    }

    private static void counts() {
        Due.by("Promise 37", "0 SYLLABLES, 1 METRES, 2 HEARD, 3 LAWS, 4 how many can be undone, 5 bytes of the TAPE, .. 11 the LAW in FORCE, 12 .. 14 TERMS 0 .. 2. NONE for others.");
        ScansionDesk d = Desks.of("000", "000", "000", "000", "000", "000", "000", "000");
        d.terms(0, 12);
        d.terms(1, 9);
        d.terms(2, 7);
        for (int k = 0; k < 2; k++) {
            Texts.metre(d, "any");
        }
        for (int k = 0; k < 3; k++) {
            d.heard(0, 0);
        }
        for (int k = 0; k < 4; k++) {
            Texts.law(d, "bars");
        }
        for (int k = 0; k < 5; k++) {
            d.ends(0);
        }
        d.force(3);
        Texts.put(d, "six");
        int[] want = {8, 2, 3, 4, 5, 3, 0, 0, 0, 0, 0, 3, 12, 9, 7};
        for (int k = 0; k < want.length; k++) {
            Due.is("count(" + k + ")", d.count(k), want[k]);
        }
        Due.is("count(15)", d.count(15), NONE);
        Due.is("count(-1)", d.count(-1), NONE);
        for (int far : Desks.FAR_OFF) {
            Due.is("count(" + far + ")", d.count(far), NONE);
        }

        Due.by("Promise 37", "6 .. 10 how many calls were REFUSED by -1, -2, -3, -5, -6 (IMAGES do not keep that)");
        ScansionDesk e = new ScansionDesk();
        e.image(0);
        e.terms(9, 0);
        Due.is("-1", Desks.refusals(e), "1 0 0 0 0");
        e.ends(0);
        Due.is("-2", Desks.refusals(e), "1 1 0 0 0");
        e.undo();
        Due.is("-3", Desks.refusals(e), "1 1 1 0 0");
        for (int k = 0; k < 7; k++) {
            e.heard(0, 0);
        }
        Due.is("-5", Desks.refusals(e), "1 1 1 1 0");
        e.row();
        Due.is("-6", Desks.refusals(e), "1 1 1 1 1");
        e.image(1);
        e.back(0);
        Due.is("not kept", Desks.refusals(e), "1 1 1 1 1");
        e.row();
        e.back(1);
        Due.is("not kept", Desks.refusals(e), "1 1 1 1 2");
        e.end(-1);
        e.feed(0, 0, 0, 0, 0);
        e.of(9, 9);
        e.best(9, 9);
        e.drawn(9, 9);
        e.count(99);
        e.listen(9);
        Due.is("NONE is no refusal", Desks.refusals(e), "1 1 1 1 2");
    }

    private static void statusOf(ScansionDesk d, String call, int answer, int want) {
        Due.is(call + " tells", answer, want);
        Due.is("behind " + call, d.status(), want < 0 ? want : 0);
    }

    private static void status() {
        Due.by("Promise 38", "What the latest call of syllable, terms, row, metre, law, orders, force, weigh, ends, meets, pass, undo, heard, weeks, image, back was REFUSED by; 0 if it was not, or ahead of any.");
        ScansionDesk d = new ScansionDesk();
        Due.is("ahead of any", d.status(), 0);
        statusOf(d, "syllable", d.syllable(3, 0, 0), -1);
        statusOf(d, "syllable", d.syllable(0, 0, 0), 0);
        statusOf(d, "terms", d.terms(3, 0), -1);
        statusOf(d, "terms", d.terms(1, 3), 1);
        statusOf(d, "row", d.row(), -6);
        statusOf(d, "row", rowOf(d, "\1\0\0"), 1);
        statusOf(d, "metre", Texts.metre(d, "x"), -6);
        statusOf(d, "metre", Texts.metre(d, "any any"), 0);
        statusOf(d, "law", Texts.law(d, "x"), -6);
        statusOf(d, "law", Texts.law(d, "bars if day=500"), 0);
        statusOf(d, "orders", Texts.orders(d, "end 9"), -3);
        statusOf(d, "orders", Texts.orders(d, "end 0"), 1);
        statusOf(d, "orders", Texts.orders(d, "x"), -6);
        Due.is("force that tells NONE", d.force(0), NONE);
        Due.is("is not refused", d.status(), 0);
        statusOf(d, "force", d.force(5), -2);
        statusOf(d, "force", d.force(0), 0);
        statusOf(d, "weigh", d.weigh(0, 0), -3);
        statusOf(d, "weigh", d.weigh(0, 2), 0);
        statusOf(d, "weigh", d.weigh(9, 0), -2);
        statusOf(d, "weigh", d.weigh(9, 9), -1);
        statusOf(d, "ends", d.ends(0), 0);
        statusOf(d, "ends", d.ends(9), -2);
        statusOf(d, "meets", d.meets(0), 1);
        statusOf(d, "meets", d.meets(9), -2);
        statusOf(d, "pass", d.pass(), 1);
        statusOf(d, "back", d.back(1), -2);
        statusOf(d, "undo", d.undo(), 3);
        d.terms(0, 999);
        statusOf(d, "pass", d.pass(), -3);
        statusOf(d, "image", d.image(0), 0);
        statusOf(d, "undo", d.undo(), -3);
        statusOf(d, "heard", d.heard(0, 0), 1);
        statusOf(d, "heard", d.heard(0, 9), -1);
        statusOf(d, "weeks", d.weeks(1, 1), 0);
        statusOf(d, "weeks", d.weeks(1, 61), -1);
        statusOf(d, "back", d.back(0), 0);
        statusOf(d, "image", d.image(9), -1);
        String others = d.of(0, 0) + " " + d.feed(0, 0, 0, 0, 0) + d.end(0) + d.mutes() + d.fault() + d.stopped() + d.steps(0)
            + d.best(0, NONE) + d.elisions(0) + d.mend(0) + d.reach(0) + d.length(0, 0) + d.fits() + d.forget() + d.canBe()
            + d.listen(0) + d.few(1, 1) + d.compare(0, 0) + d.drawn(0, 0) + d.count(0);
        Due.is("others were called", others.isEmpty() ? 0 : 1, 1);
        Due.is("others leave it", d.status(), -1);
        statusOf(d, "back", d.back(0), 0);
        d.of(9, 9);
        d.end(9);
        d.best(9, 9);
        d.few(0, 0);
        Due.is("others that tell NONE leave it", d.status(), 0);
    }

    public static void main(String[] args) {
        emptyLine();
        syllableAndOf();
        termsFeedEnd();
        rowAndMutes();
        metreLawOrders();
        faultAndStopped();
        forceAndChanges();
        undoing();
        askedOfMetres();
        hearing();
        fewAndCompare();
        weeksAndDrawn();
        imagesAndBack();
        counts();
        status();
        Due.tell();
    }
}
