/** Each promise of the document by hand: ordinary inputs, edges, wrong inputs. */
public final class PromisesTest {
    private static final int NONE = ScansionDesk.NONE;
    private static int wrong = 0;
    private static int right = 0;

    private static void due(int promise, String what, long got, long want) {
        if (got == want) {
            right++;
        } else {
            wrong++;
            System.out.println("promise " + promise + ": " + what + " answered " + got + ", due is " + want);
        }
    }

    /** A desk with syllables told as "weight ends meets" by three digits each. */
    private static ScansionDesk desk(String... syllables) {
        ScansionDesk d = new ScansionDesk();
        for (String s : syllables) {
            d.syllable(s.charAt(0) - '0', s.charAt(1) - '0', s.charAt(2) - '0');
        }
        return d;
    }

    private static void newObject() {
        ScansionDesk d = new ScansionDesk();
        int[] at = {0, 0, 0, 0, 0, 0, 0, 0, 0, 0, 0, NONE, 0, 1, 0, NONE};
        for (int k = 0; k < at.length; k++) {
            due(1, "new: count(" + k + ")", d.count(k), at[k]);
        }
        due(1, "new: mutes", d.mutes(), 0);
        due(1, "new: fault", d.fault(), NONE);
        due(1, "new: stopped", d.stopped(), NONE);
        due(1, "new: status", d.status(), 0);
        due(1, "new: drawn", d.drawn(0, 0), NONE);
        due(1, "new: back", d.back(0), -2);
        due(1, "new: NONE", NONE, -1);
    }

    private static void syllables() {
        ScansionDesk d = new ScansionDesk();
        int[][] bad = {{-1, 0, 0}, {3, 0, 0}, {0, -1, 0}, {0, 2, 0}, {0, 0, -1}, {0, 0, 2}};
        for (int[] b : bad) {
            due(2, "bad syllable", d.syllable(b[0], b[1], b[2]), -1);
        }
        for (int k = 0; k < 20; k++) {
            due(2, "syllable", d.syllable(k % 3, k % 2, k / 2 % 2), k);
        }
        due(2, "21st", d.syllable(0, 0, 0), -5);
        due(2, "21st, bad", d.syllable(3, 0, 0), -1);
        due(2, "count", d.count(0), 20);
        for (int k = 0; k < 20; k++) {
            due(3, "weight", d.of(k, 0), k % 3);
            due(3, "ends", d.of(k, 1), k % 2);
            due(3, "meets", d.of(k, 2), k / 2 % 2);
        }
        due(3, "the last can't be elided, though it meets", d.of(19, 2) * 10 + d.of(19, 5), 10);
        due(3, "one ahead of it can", d.of(18, 5), 1);
        due(3, "short as short", d.of(0, 3), 1);
        due(3, "short as long", d.of(0, 4), 0);
        due(3, "either as long", d.of(2, 4), 1);
        due(3, "cost as it is", d.of(0, 6), 0);
        due(3, "cost as it is not", d.of(0, 7), 1);
        due(3, "cost of either", d.of(2, 6) + d.of(2, 7), 0);
        due(3, "cost of either elided", d.of(2, 8), 1);
        due(3, "cost of elision that can't be", d.of(0, 8), 1);
        int[][] none = {{-1, 0}, {20, 0}, {0, -1}, {0, 9}};
        for (int[] n : none) {
            due(3, "of none", d.of(n[0], n[1]), NONE);
        }
        due(3, "of none leaves status", d.status(), -1);
        due(3, "of none is no refusal", d.count(6), 7);
    }

    private static void terms() {
        ScansionDesk d = new ScansionDesk();
        due(4, "day", d.terms(0, 999), 0);
        due(4, "slips", d.terms(1, 10), 1);
        due(4, "mood", d.terms(2, 9), 0);
        due(4, "day again", d.terms(0, 5), 999);
        int[][] bad = {{0, -1}, {0, 1000}, {1, -1}, {1, 11}, {2, -1}, {2, 10}, {-1, 0}, {3, 0}};
        for (int[] b : bad) {
            due(4, "bad terms", d.terms(b[0], b[1]), -1);
        }
        due(4, "told", d.count(12) * 10000 + d.count(13) * 100 + d.count(14), 51009);
    }

    private static void tape() {
        ScansionDesk d = new ScansionDesk();
        for (int k = 1; k <= 20; k++) {
            due(5, "feed", d.feed(0x02010102, -1, 0, 0, 0), 20 * k);
        }
        due(5, "feed beyond", d.feed(0, 0, 0, 0, 0), NONE);
        due(5, "as long as it was", d.count(5), 400);
        due(5, "no refusal", d.count(6), 0);
        due(6, "end beyond", d.end(401), NONE);
        due(6, "end below", d.end(-1), NONE);
        due(6, "end whole", d.end(400), 400);
        due(6, "end 381", d.end(381), 381);
        due(5, "feed one too many", d.feed(0, 0, 0, 0, 0), NONE);
        due(6, "end 4", d.end(4), 4);
        due(6, "end longer", d.end(5), NONE);
        due(7, "row: highest byte first", d.row(), 1);
        due(7, "row: its weight", d.of(0, 0), 2);
        due(7, "row: its ends", d.of(0, 1), 1);
        due(7, "row: tape", d.count(5), 0);
        due(8, "the lone byte is a mute", d.mutes(), 1);
        due(6, "end 0", d.end(0), 0);
    }

    private static void rows() {
        ScansionDesk d = desk("000");
        d.weigh(0, 1);
        due(7, "empty", d.row(), -6);
        due(7, "status", d.status(), -6);
        due(7, "refused: can be undone", d.count(4), 1);
        due(8, "ahead of any", d.mutes(), 0);
        Texts.put(d, "\3\0\0\0\2\0\0\0\2\377\0\0\2\1\1\1\0");
        due(7, "row", d.row(), 1);
        due(8, "mutes", d.mutes(), 5);
        due(7, "nothing can be undone", d.count(4), 0);
        due(7, "what came", d.of(1, 0) * 100 + d.of(1, 1) * 10 + d.of(1, 2), 211);
        due(7, "empty then", d.row(), -6);
        due(8, "refused: mutes stay", d.mutes(), 5);
        Texts.put(d, Texts.repeat("\1\0\1", "", 25));
        due(7, "no more room", d.row(), 18);
        due(8, "no more room: mutes", d.mutes(), 7);
        due(7, "all mute", rowOf(d, "\0\0\0"), 0);
        due(7, "all mute is no refusal", d.status(), 0);
        due(8, "all mute: mutes", d.mutes(), 1);
    }

    private static int rowOf(ScansionDesk d, String text) {
        Texts.put(d, text);
        return d.row();
    }

    private static void metreFault(String text, int fault) {
        ScansionDesk d = new ScansionDesk();
        due(9, "metre \"" + text + "\"", Texts.metre(d, text), fault == NONE ? 0 : -6);
        due(12, "fault of metre \"" + text + "\"", d.fault(), fault);
        due(9, "tape behind it", d.count(5), 0);
        due(9, "metres behind it", d.count(1), fault == NONE ? 1 : 0);
    }

    private static void metres() {
        metreFault("", 0);
        metreFault("   ", 3);
        metreFault("long", NONE);
        metreFault("  any times 9 ", NONE);
        metreFault("any times 09", NONE);
        metreFault("any times 0", 10);
        metreFault("any times 10", 10);
        metreFault("any times", 9);
        metreFault("any times long", 10);
        metreFault("any times 2 times 3", 12);
        metreFault("(any times 2)times 3", NONE);
        metreFault("long or", 7);
        metreFault("or long", 0);
        metreFault("long or or short", 8);
        metreFault("()", 1);
        metreFault("(long", 5);
        metreFault("long)", 4);
        metreFault("long]", 4);
        metreFault("[long]", 0);
        metreFault("longshort", 0);
        metreFault("longz", 0);
        metreFault("zlong", 0);
        metreFault("long2", 4);
        metreFault(Texts.repeat(";", "", 400), 0);
        metreFault(Texts.repeat(" ", "", 400), 400);
        metreFault(Texts.repeat("(cut)", "", 80), NONE);
        metreFault("Long", 0);
        metreFault("long\tshort", 4);
        metreFault("long place", 5);
        metreFault("((((((((any))))))))", NONE);
        metreFault("(((((((((any)))))))))", 8);
        metreFault("((((((((any))))))))((((((((any))))))))", NONE);
        metreFault("long (any or (", 14);
        metreFault("(any times 5)times 5 times", 21);
        // 200 steps, 201 steps; a fault ahead of the end comes first
        metreFault("((any times 5)times 5)times 8", NONE);
        metreFault("((any times 5)times 5)times 8 or cut", 36);
        metreFault("((any times 5)times 5)times 8 cut  ", 35);
        metreFault("(((((((((any times 9)times 9)times 9)times 9)times 9)times 9)times 9)times 9)times 9", 8);
        metreFault("((((((((any times 9)times 9)times 9)times 9)times 9)times 9)times 9)times 9)times 9", 83);
        metreFault("((any times 9)times 9)times 9 x", 30);

        ScansionDesk d = desk("000");
        d.weigh(0, 1);
        for (int k = 0; k < 6; k++) {
            due(9, "metre", Texts.metre(d, "any"), k);
        }
        due(9, "it leaves what can be undone", d.count(4), 1);
        Texts.metre(d, "x");
        due(9, "no room", d.status(), -5);
        due(12, "that was not read", d.fault(), NONE);
        due(9, "the tape is empty", d.count(5), 0);
        due(9, "six", d.count(1), 6);
        due(12, "a law is read", Texts.law(d, "bars x"), -6);
        due(12, "fault of the law", d.fault(), 5);
        due(12, "no room", Texts.metre(d, "any"), -5);
        due(12, "stays", d.fault(), 5);
        Texts.orders(d, "weigh 0 to 1");
        due(12, "orders that can't be have no fault", d.fault(), NONE);
    }

    private static void lawFault(String text, int fault) {
        ScansionDesk d = new ScansionDesk();
        due(10, "law \"" + text + "\"", Texts.law(d, text), fault == NONE ? 0 : -6);
        due(12, "fault of law \"" + text + "\"", d.fault(), fault);
        due(10, "tape behind it", d.count(5), 0);
        due(10, "laws behind it", d.count(3), fault == NONE ? 1 : 0);
    }

    private static void laws() {
        lawFault("", 0);
        lawFault("  ", 2);
        lawFault("bars", NONE);
        lawFault("allows;bars;costs 1", NONE);
        lawFault("bars;", 5);
        lawFault("bars 1", 5);
        lawFault("costs", 5);
        lawFault("costs 1000", NONE);
        lawFault("costs 1001", 6);
        lawFault("costs 99999999999999999999", 6);
        lawFault("costs 0000000000000000001000", NONE);
        lawFault("costs -1", 6);
        lawFault("costs 1+", 8);
        lawFault("costs 1 2", 8);
        lawFault("costs (1)", 6);
        lawFault("costs [1", 8);
        lawFault("costs [1)", 8);
        lawFault("costs []", 7);
        lawFault("costs place+weight*as/ends%meets-count+day*mood", NONE);
        lawFault("costs done", 6);
        lawFault("costs weight 3", 13);
        lawFault("costs scans 1", 6);
        lawFault("bars if 1", 9);
        lawFault("bars if 1=1", NONE);
        lawFault("bars if 1=1=1", 11);
        lawFault("bars if (1=1", 12);
        lawFault("bars if (1)=1", 10);
        lawFault("bars if [1]=1", NONE);
        lawFault("bars if [1=1]", 10);
        lawFault("bars if not not (not 1=1)", NONE);
        lawFault("bars if not", 11);
        lawFault("bars if 1=1 and", 15);
        lawFault("bars if 1=1 or or", 15);
        lawFault("bars if 1=1 if 1=1", 12);
        lawFault("bars times 2", 5);
        lawFault("weigh 0 to 1", 0);
        lawFault("bars if [[[[[[[[1]]]]]]]]=1", NONE);
        lawFault("bars if [[[[[[[[[1]]]]]]]]]=1", 16);
        lawFault("bars if (((((((([1]=1))))))))", 16);
        lawFault("bars if ((((((([1]=1)))))))", NONE);
        lawFault("bars if ((((((((1=1))))))))", NONE);
        lawFault("bars if (((((((((1=1)))))))))", 16);
        lawFault(Texts.repeat("bars", ";", 12), NONE);
        lawFault(Texts.repeat("bars", ";", 12) + ";", 60);
        lawFault(Texts.repeat("bars", ";", 12) + "; bars", 61);
        lawFault("costs " + Texts.repeat("1", "+", 50), NONE);
        lawFault("costs " + Texts.repeat("1", "+", 51), 106);
        lawFault("costs [" + Texts.repeat("as", "*", 49) + "];bars if 1=1", 165);
        lawFault("bars if 1 = 1 and\0", 17);

        ScansionDesk d = desk("000");
        d.meets(0);
        for (int k = 0; k < 6; k++) {
            due(10, "law", Texts.law(d, "bars if 1=0"), k);
        }
        due(10, "it leaves what can be undone", d.count(4), 1);
        due(10, "no room, not read", Texts.law(d, "x"), -5);
        due(10, "tape", d.count(5), 0);
        due(12, "not read", d.fault(), NONE);
    }

    /** What reading one short syllable as 0 costs by a law. */
    private static int costBy(String sum) {
        ScansionDesk d = desk("000", "111", "200");
        Texts.law(d, "costs 7; costs " + sum);
        d.force(0);
        return d.of(1, 6);
    }

    private static int barredBy(String test) {
        ScansionDesk d = desk("000", "111", "200");
        Texts.law(d, "bars if " + test);
        d.force(0);
        return 1 - d.of(1, 4);
    }

    private static void sums() {
        due(3, "1+2*3", costBy("1+2*3"), 7);
        due(3, "10-2-3", costBy("10-2-3"), 5);
        due(3, "[1+2]*3", costBy("[1+2]*3"), 9);
        due(3, "100/10/5", costBy("100/10/5"), 2);
        due(3, "17%10%4", costBy("17%10%4"), 3);
        due(3, "20-2*3+1", costBy("20-2*3+1"), 15);
        due(3, "cut towards 0", costBy("[0-7]/2+50"), 47);
        due(3, "what is left", costBy("[0-7]%2+50"), 49);
        due(3, "by a number below 0", costBy("7%[0-2]+50"), 51);
        due(3, "beyond 99", costBy("100"), 99);
        due(3, "below 0", costBy("0-5"), 0);
        due(3, "by 0", costBy("1/0"), 7);
        due(3, "left of 0", costBy("1%[as-as]"), 7);
        due(3, "1,000,000,000", costBy("1000*1000*1000"), 99);
        due(3, "beyond it", costBy("1000*1000*1000+1"), 7);
        due(3, "1,000,000,000 below 0", costBy("0-1000*1000*1000"), 0);
        due(3, "below it", costBy("0-1000*1000*1000-1"), 7);
        due(3, "beyond it on the way", costBy("1000*1000*1000*1000/1000/1000/1000/1000"), 7);
        due(3, "words", costBy("place*10+count"), 13);
        due(3, "more words", costBy("weight*64+as*32+ends*16+meets*8"), 88);
        due(10, "or", barredBy("1=0 or 1=1"), 1);
        due(10, "and", barredBy("1=1 and 1=0"), 0);
        due(10, "and binds more", barredBy("1=1 or 1=1 and 1=0"), 1);
        due(10, "brackets", barredBy("(1=1 or 1=1)and 1=0"), 0);
        due(10, "not", barredBy("not 1=0"), 1);
        due(10, "not binds most", barredBy("not 1=1 or 1=1"), 1);
        due(10, "not not", barredBy("not not 1=0"), 0);
        due(10, "less, more", barredBy("1<2 and 2>1 and not 1<1 and not 1>1 and not 2<1 and not 1>2"), 1);
        due(10, "or does not ask", barredBy("1=1 or 1/0=1"), 1);
        due(10, "or asks", barredBy("1=0 or 1/0=1"), 0);
        due(10, "broken stays though the rest is so", barredBy("1/0=1 or 1=1"), 0);
        due(10, "and does not ask", barredBy("not(1=0 and 1/0=1)"), 1);
        due(10, "not of what is broken", barredBy("not 1/0=1"), 0);
        due(10, "or skips a whole both", barredBy("1=1 or 1=0 and 1/0=1 or 1%0=0"), 1);
        due(10, "and goes on behind it", barredBy("1=0 and 1/0=1 or 1=1"), 1);
        due(10, "and again", barredBy("1=0 and 1/0=1 and 1/0=1 or 1=1 and 2=2"), 1);
    }

    private static void ways() {
        ScansionDesk d = desk("001", "111", "201");
        Texts.law(d, "allows if place=0; bars if as=2 and place=1; costs 5 if as=2; costs 6 if place=0 and mood=3");
        due(14, "in force", d.force(0), NONE);
        due(14, "told", d.count(11), 0);
        due(3, "allowed", d.of(0, 4), 1);
        due(3, "not allowed", d.of(1, 3), 0);
        due(3, "elided", d.of(0, 5), 1);
        due(3, "barred", d.of(1, 5), 0);
        due(3, "last", d.of(2, 5), 0);
        due(3, "cost told", d.of(0, 8), 5);
        due(3, "cost not told", d.of(0, 7), 1);
        d.terms(2, 3);
        due(3, "the last that holds", d.of(0, 8), 6);
        due(3, "by mood", d.of(0, 6), 6);
        due(14, "none", d.force(NONE), 0);
        due(14, "none: told", d.count(11), NONE);
        due(3, "none: allowed", d.of(0, 4), 0);
        due(14, "no such", d.force(1), -2);
        due(14, "no such either", d.force(-2), -2);
        due(14, "status", d.status(), -2);
        d.ends(0);
        d.force(0);
        due(14, "it leaves what can be undone", d.count(4), 1);
        ScansionDesk e = desk("001", "100");
        Texts.law(e, "allows if as=2; bars if day=1");
        e.force(0);
        e.meets(0);
        due(3, "allows is not for elisions", e.of(0, 5), 0);
        due(3, "day 0", e.of(0, 3), 1);
        e.pass();
        due(3, "day 1", e.of(0, 3), 0);
    }

    private static void ordersFault(String text, int fault) {
        ScansionDesk d = desk("000", "000", "000");
        int answer = Texts.orders(d, text);
        due(11, "orders \"" + text + "\"", answer == -6 ? 1 : 0, fault == NONE ? 0 : 1);
        due(12, "fault of orders \"" + text + "\"", d.fault(), fault);
        due(11, "tape behind it", d.count(5), 0);
        if (fault != NONE) {
            due(13, "stopped", d.stopped(), NONE);
            due(11, "nothing was done", d.count(4), 0);
        }
    }

    private static void orderTexts() {
        ordersFault("", 0);
        ordersFault(" ", 1);
        ordersFault("pass", NONE);
        ordersFault("pass 1", 5);
        ordersFault("end", 3);
        ordersFault("ends 1", 0);
        ordersFault("weigh 0", 7);
        ordersFault("weigh 0 to", 10);
        ordersFault("weigh 0 to 1", NONE);
        ordersFault("weigh 0 to 1 to 2", 13);
        ordersFault("pass times 20", NONE);
        ordersFault("pass times 0", 11);
        ordersFault("pass times 21", 11);
        ordersFault("pass if 1=1 times 2", 12);
        ordersFault("pass times 2 if 1=1", NONE);
        ordersFault("pass times 2 times 2", 13);
        ordersFault("pass if", 7);
        ordersFault("end weight 0", NONE);
        ordersFault("end weight 19", NONE);
        ordersFault("end weight 20", 11);
        ordersFault("end weight weight 0", 11);
        ordersFault("end weight", 10);
        ordersFault("end scans 5", NONE);
        ordersFault("end scans 6", 10);
        ordersFault("end day+done+latest+count", NONE);
        ordersFault("end place", 4);
        ordersFault("end mood", 4);
        ordersFault("end 1001", 4);
        ordersFault("pass;end 0;pass;", 16);
        ordersFault("pass;;pass", 5);
        ordersFault("pass;costs 1", 5);
        ordersFault(Texts.repeat("pass", ";", 12), NONE);
        ordersFault(Texts.repeat("pass", ";", 13), 60);
        ordersFault("pass if " + Texts.repeat("day", "+", 49) + "=0", NONE);
        ordersFault("pass if " + Texts.repeat("day", "+", 50) + "=0", 208);
        String parts49 = "end " + Texts.repeat("scans 0", "*", 20) + "+" + Texts.repeat("day", "+", 29);
        ordersFault(parts49 + " times 20 if weight 0=1", parts49.length() + 22);
        ordersFault(parts49 + " times 20;end weight 0;meet 19", parts49.length() + 28);
        ordersFault(parts49 + " times 20;end weight 0;pass times 20", NONE);
        ordersFault("pass times 9;pass times 9 if " + Texts.repeat("count", "*", 49) + "=0;pass times 9", NONE);
        ordersFault("end [[[[[[[[0]]]]]]]]", NONE);
        ordersFault("end [[[[[[[[[0]]]]]]]]]", 12);
    }

    private static void orders() {
        ScansionDesk d = desk("000", "100", "200");
        Texts.metre(d, "short long any");
        due(11, "weigh", Texts.orders(d, "weigh 0 to 2; end 1; meet 2; pass"), 4);
        due(11, "weighed", d.of(0, 0), 2);
        due(11, "ends", d.of(1, 1), 1);
        due(11, "meets", d.of(2, 2), 1);
        due(11, "passed", d.count(12), 1);
        due(11, "can be undone", d.count(4), 4);
        due(11, "times", Texts.orders(d, "end 0 times 3; pass times 2"), 5);
        due(11, "ends behind three", d.of(0, 1), 1);
        due(11, "if", Texts.orders(d, "pass if day=3; pass if day=3; pass times 5 if day<6"), 3);
        due(11, "day", d.count(12), 6);
        due(11, "a broken if", Texts.orders(d, "pass if 1/0=0"), 0);
        due(11, "done", Texts.orders(d, "pass times 20 if done<4; end done if done=4"), -3);
        due(13, "done: stopped", d.stopped(), 1);
        due(11, "all as it was", d.count(12), 6);
        due(11, "status", d.status(), -3);
        due(11, "latest", Texts.orders(d, "end 0 if latest=0-1; pass; end 0 if latest=1; end 0 if latest=0"), 3);
        due(11, "weight", Texts.orders(d, "end 0 if weight 1=1; end 0 if weight 3=0-1; end 0 if weight 19=0-1"), 3);
        due(11, "scans", Texts.orders(d, "end 0 if scans 0=1; weigh 1 to 0; end 0 if scans 0=0; end 0 if scans 1=0-1"), 4);
        due(11, "count", Texts.orders(d, "weigh count-1 to 0 if count=3"), 1);
        due(13, "not stopped", d.stopped(), NONE);
        String[] cant = {"weigh 2 to 0", "weigh 0 to 3", "weigh 3 to 0", "weigh 0 to 0-1", "end 3", "meet 0-1", "end 1/0",
            "weigh 1/0 to 1", "weigh 1 to 1/0", "meet 1000*1000*1000*2"};
        for (String c : cant) {
            int undoable = d.count(4);
            due(11, c, Texts.orders(d, "meet 0;pass times 2;" + c + ";pass"), -3);
            due(13, c, d.stopped(), 2);
            due(11, c + ": undo", d.count(4), undoable);
            due(11, c + ": meets", d.of(0, 2), 0);
        }
        due(13, "by -6", Texts.orders(d, "x"), -6);
        due(13, "by -6: none", d.stopped(), NONE);
        d.terms(0, 998);
        due(11, "days end", Texts.orders(d, "pass times 2"), -3);
        due(11, "days end: as it was", d.count(12), 998);
        due(11, "days end", Texts.orders(d, "pass"), 1);
        due(11, "days end: at 999", Texts.orders(d, "pass"), -3);
        due(11, "days end: no if", Texts.orders(d, "pass times 3 if day<999"), 0);
        restoresWhatCanBeUndone();
    }

    private static void restoresWhatCanBeUndone() {
        ScansionDesk d = desk("000", "200");
        d.weigh(1, 1);
        d.ends(1);
        due(11, "twenty and one that can't be", Texts.orders(d, "meet 0 times 17; weigh 0 to done/17;pass times 2;end 9"), -3);
        due(13, "stopped at the last", d.stopped(), 3);
        due(19, "still two", d.count(4), 2);
        due(19, "the ends", d.undo(), 1);
        due(19, "the weigh", d.undo(), 0);
        due(19, "its weight", d.of(1, 0), 2);
        due(19, "its end", d.of(1, 1), 0);
        due(19, "no more", d.undo(), -3);
    }

    private static void changes() {
        ScansionDesk d = desk("010", "100");
        due(15, "weigh", d.weigh(0, 2), 0);
        due(15, "weigh again", d.weigh(0, 1), 2);
        due(15, "it is so", d.weigh(0, 1), -3);
        due(15, "no weight", d.weigh(5, 3), -1);
        due(15, "no weight below", d.weigh(0, -1), -1);
        due(15, "no syllable", d.weigh(2, 1), -2);
        due(15, "no syllable below", d.weigh(-1, 1), -2);
        due(16, "ends no more", d.ends(0), 0);
        due(16, "ends", d.ends(0), 1);
        due(16, "no syllable", d.ends(2), -2);
        due(16, "no syllable below", d.ends(-1), -2);
        due(17, "meets", d.meets(1), 1);
        due(17, "meets no more", d.meets(1), 0);
        due(17, "no syllable", d.meets(2), -2);
        due(17, "no syllable below", d.meets(-1), -2);
        Texts.metre(d, "long long");
        Texts.metre(d, "any any");
        Texts.metre(d, "any");
        due(18, "pass", d.pass(), 2);
        due(18, "next day", d.count(12), 1);
        Texts.law(d, "bars if day=1");
        d.force(0);
        due(18, "as it is ahead of the next day", d.pass(), 0);
        due(18, "day after", d.pass(), 2);
        d.terms(0, 999);
        due(18, "last day", d.pass(), -3);
        due(18, "stays", d.count(12), 999);
    }

    private static void undo() {
        ScansionDesk d = desk("000", "000");
        due(19, "nothing", d.undo(), -3);
        d.weigh(0, 2);
        d.weigh(0, 1);
        d.ends(0);
        d.meets(1);
        d.pass();
        due(19, "pass", d.undo(), 3);
        due(19, "day", d.count(12), 0);
        due(19, "meets", d.undo(), 2);
        due(19, "meets no more", d.of(1, 2), 0);
        due(19, "ends", d.undo(), 1);
        due(19, "ends no more", d.of(0, 1), 0);
        due(19, "weigh", d.undo(), 0);
        due(19, "as it was", d.of(0, 0), 2);
        due(19, "weigh again", d.undo(), 0);
        due(19, "as at first", d.of(0, 0), 0);
        due(19, "no more", d.undo(), -3);
        d.weigh(0, 1);
        for (int k = 0; k < 16; k++) {
            d.ends(1);
        }
        due(19, "sixteen", d.count(4), 16);
        for (int k = 0; k < 16; k++) {
            due(19, "of sixteen", d.undo(), 1);
        }
        due(19, "the weigh is too far back", d.undo(), -3);
        due(19, "it stands", d.of(0, 0), 1);
        d = new ScansionDesk();
        for (int k = 0; k < 20; k++) {
            d.syllable(k % 3, 0, 0);
        }
        for (int k = 0; k < 20; k++) {
            d.weigh(k, (k + 1) % 3);
        }
        for (int k = 19; k >= 4; k--) {
            due(19, "one of the latest sixteen", d.undo(), 0);
            due(19, "its weight", d.of(k, 0), k % 3);
        }
        due(19, "one of the first four", d.undo(), -3);
        due(19, "it stands", d.of(3, 0), 1);
        leavesOrNot();
    }

    private static void leavesOrNot() {
        ScansionDesk d = desk("000");
        d.ends(0);
        d.syllable(3, 0, 0);
        d.terms(0, -1);
        d.row();
        d.back(0);
        d.heard(0, 0);
        d.forget();
        d.image(0);
        d.weeks(1, 1);
        due(19, "refused ones, others leave it", d.count(4), 1);
        d.terms(0, 0);
        due(19, "terms do not", d.count(4), 0);
        d.ends(0);
        d.syllable(0, 0, 0);
        due(19, "syllable does not", d.count(4), 0);
        d.ends(0);
        rowOf(d, "x");
        due(19, "row does not", d.count(4), 0);
        d.ends(0);
        d.back(0);
        due(19, "back does not", d.count(4), 0);
    }

    private static void numbersOfMetres() {
        ScansionDesk d = new ScansionDesk();
        Texts.metre(d, "long short times 3 cut or (any any or cut times 2 long)times 4");
        due(20, "steps", d.steps(0), 5 + 4 * 5);
        due(25, "shortest", d.length(0, 0), 4);
        due(25, "longest", d.length(0, 1), 8);
        Texts.metre(d, "cut or cut cut");
        due(25, "shortest 0", d.length(1, 0), 0);
        due(25, "longest 0", d.length(1, 1), 0);
        Texts.metre(d, "((any times 5)times 5)times 8");
        due(20, "200", d.steps(2), 200);
        due(25, "longer than any line here", d.length(2, 1), 200);
        for (int m : new int[] {-1, 3, 6, Integer.MIN_VALUE, Integer.MAX_VALUE}) {
            due(20, "no metre", d.steps(m), NONE);
            due(21, "no metre", d.best(m, NONE), NONE);
            due(22, "no metre", d.elisions(m), NONE);
            due(23, "no metre", d.mend(m), NONE);
            due(24, "no metre", d.reach(m), NONE);
            due(25, "no metre", d.length(m, 0), NONE);
            due(32, "no metre", d.compare(NONE, m), NONE);
        }
        due(25, "what", d.length(0, 2), NONE);
        due(25, "what below", d.length(0, -1), NONE);
        due(38, "status", d.status(), 0);
    }

    private static void best() {
        ScansionDesk d = desk("200", "200", "200");
        Texts.metre(d, "any any any");
        due(21, "nothing to pay", d.best(0, NONE), 0);
        due(21, "the first row", d.best(0, 0) * 100 + d.best(0, 1) * 10 + d.best(0, 2), 0);
        Texts.metre(d, "short short long or long any any");
        due(21, "first by the first syllable", d.best(1, 0) * 100 + d.best(1, 1) * 10 + d.best(1, 2), 1);
        Texts.law(d, "costs 9-place if as=0; costs 2 if as=1");
        d.force(0);
        due(21, "cheapest", d.best(0, NONE), 6);
        due(21, "cheapest row", d.best(0, 0) * 100 + d.best(0, 1) * 10 + d.best(0, 2), 111);
        due(21, "syllable", d.best(0, 3), NONE);
        due(21, "syllable below", d.best(0, -2), NONE);
        due(32, "compared with none", d.compare(NONE, 0), 0);
        due(32, "compared with itself", d.compare(0, 0), 6);
        due(32, "no law", d.compare(1, 0), NONE);
        due(32, "no law below", d.compare(-2, 0), NONE);
        Texts.law(d, "bars");
        due(32, "takes none", d.compare(1, 0), NONE);
        d.force(1);
        due(21, "takes none", d.best(0, NONE), NONE);
        due(21, "takes none: syllable", d.best(0, 1), NONE);
        due(22, "takes none", d.elisions(0), NONE);
        due(26, "takes none", d.fits(), 0);
        due(32, "by none it does", d.compare(NONE, 0), 0);
        due(23, "to mend all", d.mend(0), 3);
        due(24, "no way", d.reach(0), 0);
    }

    private static void elisionsAndCuts() {
        // short-meets, long-ends, short-meets, long-ends
        ScansionDesk d = desk("001", "110", "001", "110");
        Texts.metre(d, "any any or any any any any");
        Texts.metre(d, "any any cut any any");
        Texts.metre(d, "any cut any any");
        Texts.metre(d, "any cut any");
        Texts.metre(d, "long cut short long cut");
        Texts.metre(d, "any cut any any any");
        due(22, "none needed", d.elisions(0), 0);
        due(21, "elision costs 1", d.best(3, NONE), 2);
        due(22, "two", d.elisions(3), 2);
        due(21, "elided", d.best(3, 0) * 1000 + d.best(3, 1) * 100 + d.best(3, 2) * 10 + d.best(3, 3), 2121);
        due(22, "one", d.elisions(2), 1);
        due(22, "none", d.elisions(1), 0);
        due(22, "one ahead", d.elisions(4), 1);
        due(26, "fits", d.fits(), 0b11111);
        due(24, "cut within a word", d.reach(5), 4);
        due(23, "cut within a word can't be mended", d.mend(5), NONE);
        d.ends(1);
        due(26, "no word ends there", d.fits(), 0b000001);
        // the elided syllable itself ends a word
        ScansionDesk e = desk("011", "100");
        Texts.metre(e, "cut long");
        Texts.metre(e, "cut times 9 long");
        Texts.metre(e, "long cut");
        due(26, "cut behind what is elided, or ahead of all", e.fits(), 0b011);
        Texts.metre(e, "short cut long");
        due(26, "cut behind what is read", e.fits(), 0b1011);
        e.ends(1);
        due(26, "cut behind all", e.fits(), 0b1111);
        e.ends(0);
        due(26, "ahead of all there is none", e.fits(), 0b0111);
    }

    private static void mendAndReach() {
        ScansionDesk d = desk("000", "100", "001", "100");
        Texts.metre(d, "long short long");
        Texts.metre(d, "long long long long");
        Texts.metre(d, "short long long short");
        Texts.metre(d, "any any any any any");
        Texts.metre(d, "short");
        due(23, "with an elision", d.mend(0), 2);
        due(23, "two", d.mend(1), 2);
        due(23, "two others", d.mend(2), 2);
        due(23, "too long", d.mend(3), NONE);
        due(24, "at the first it ends", d.reach(0), 0);
        due(24, "none", d.reach(1), 0);
        due(24, "with an elision", d.reach(2), 4);
        due(24, "all of the line", d.reach(3), 4);
        due(24, "the metre ends", d.reach(4), 1);
        d.meets(1);
        due(24, "elided behind it", d.reach(4), 3);
        d.weigh(0, 2);
        due(23, "one", d.mend(1), 1);
        ScansionDesk e = desk();
        Texts.metre(e, "cut or long");
        Texts.metre(e, "long");
        due(21, "empty line", e.best(0, NONE), 0);
        due(21, "no syllable", e.best(0, 0), NONE);
        due(22, "empty line", e.elisions(0), 0);
        due(23, "empty line", e.mend(0), 0);
        due(23, "empty line, long", e.mend(1), NONE);
        due(24, "empty line", e.reach(1), 0);
        due(26, "empty line", e.fits(), 1);
    }

    private static void longLine() {
        ScansionDesk d = new ScansionDesk();
        for (int k = 0; k < 20; k++) {
            d.syllable(2, 1, 1);
        }
        Texts.law(d, "costs 1000");
        d.force(0);
        Texts.metre(d, "any times 9 any times 9 any any");
        Texts.metre(d, "any");
        Texts.metre(d, "any times 7 any times 7 any times 7");
        due(21, "the most there can be to pay", d.best(0, NONE), 20 * 99);
        due(21, "first of the row", d.best(0, 0), 0);
        due(21, "last of the row", d.best(0, 19), 0);
        due(21, "all but the last elided", d.best(1, 18) * 10 + d.best(1, 19), 20);
        due(22, "all but one", d.elisions(1), 19);
        due(21, "too long", d.best(2, NONE), NONE);
        due(24, "too long", d.reach(2), 20);
        due(26, "fits", d.fits(), 3);
        due(30, "where they differ", d.listen(0), 0);
        due(30, "left", d.listen(1), 1);
    }

    private static void hearing() {
        ScansionDesk d = desk("201", "200", "200");
        Texts.metre(d, "long long");
        Texts.metre(d, "short any any");
        Texts.metre(d, "any short long");
        Texts.metre(d, "any");
        due(26, "fits", d.fits(), 0b0111);
        due(29, "nothing heard", d.canBe(), 0b0111);
        // best: 211, 000, 001
        due(30, "listen at", d.listen(0), 0);
        due(30, "left", d.listen(1), 2);
        due(27, "heard", d.heard(0, 0), 1);
        due(29, "heard", d.canBe(), 0b0110);
        due(30, "two left", d.listen(0), 2);
        due(30, "one left", d.listen(1), 1);
        due(27, "heard again", d.heard(0, 0), 2);
        due(29, "the same", d.canBe(), 0b0110);
        due(27, "otherwise", d.heard(0, 1), 3);
        due(29, "both can't be", d.canBe(), 0);
        due(30, "none left", d.listen(0), NONE);
        due(30, "none left either", d.listen(1), NONE);
        due(28, "forget", d.forget(), 3);
        due(28, "forgotten", d.forget(), 0);
        due(2, "count", d.count(2), 0);
        d.heard(0, 1);
        due(29, "long first", d.canBe(), 0b0100);
        due(30, "one is left: the lowest", d.listen(0), 0);
        due(30, "one is left", d.listen(1), 1);
        due(30, "what", d.listen(2), NONE);
        due(30, "what below", d.listen(-1), NONE);
        d.forget();
        int[][] bad = {{-1, 0}, {20, 0}, {0, -1}, {0, 3}};
        for (int[] b : bad) {
            due(27, "bad heard", d.heard(b[0], b[1]), -1);
        }
        d.ends(0);
        due(27, "of one that is not there", d.heard(19, 0), 1);
        due(29, "none is so", d.canBe(), 0);
        due(27, "it leaves what can be undone", d.count(4), 1);
        for (int k = 2; k <= 6; k++) {
            due(27, "heard", d.heard(k, 1), k);
        }
        due(27, "the seventh", d.heard(0, 1), -5);
        due(27, "the seventh, bad", d.heard(0, 3), -1);
        due(27, "six", d.count(2), 6);
        ScansionDesk e = desk();
        Texts.metre(e, "cut");
        due(29, "empty line", e.canBe(), 1);
        due(30, "no syllables", e.listen(0), NONE);
        bestWhateverWasHeard();
    }

    private static void bestWhateverWasHeard() {
        ScansionDesk d = desk("200", "200");
        Texts.metre(d, "any short");
        Texts.metre(d, "any long");
        d.heard(0, 1);
        due(29, "both", d.canBe(), 3);
        due(30, "listen at the second", d.listen(0), 1);
        due(30, "one", d.listen(1), 1);
    }

    private static void few() {
        ScansionDesk d = new ScansionDesk();
        due(31, "none of none", d.few(1, 0), 1000000000000L);
        due(31, "none of one", d.few(1, 1), 900000000000L);
        due(31, "one of one", d.few(2, 1), 1000000000000L);
        due(31, "one of three", d.few(2, 3), 972000000000L);
        due(31, "cut each time", d.few(1, 15), 205891132093L);
        d.terms(1, 0);
        due(31, "never", d.few(1, 99), 1000000000000L);
        d.terms(1, 10);
        due(31, "always", d.few(20, 20), 0);
        due(31, "always, fewer", d.few(20, 19), 1000000000000L);
        d.terms(1, 5);
        due(31, "half of 20", d.few(1, 20), 953674L);
        int[][] bad = {{0, 5}, {21, 5}, {1, -1}, {1, 100}, {-1, 5}};
        for (int[] b : bad) {
            due(31, "bad few", d.few(b[0], b[1]), NONE);
        }
        due(31, "status", d.status(), 0);
    }

    private static void weeks() {
        ScansionDesk d = desk("000", "000", "000");
        int[][] bad = {{-1, 1}, {1000001, 1}, {0, 0}, {0, 61}};
        for (int[] b : bad) {
            due(33, "bad weeks", d.weeks(b[0], b[1]), -1);
        }
        due(34, "none yet", d.drawn(0, 0), NONE);
        Texts.metre(d, "any any any");
        // 0: 12345, 12345*1103+12345 = 13628880 mod 1000003 = 628841; then 628841*1103+12345 mod 1000003
        long s1 = 12345;
        long s2 = (s1 * 1103 + 12345) % 1000003;
        long s3 = (s2 * 1103 + 12345) % 1000003;
        int at = (int) (s1 % 3);
        int fact = s3 % 4 < 2 ? 0 : s3 % 4 == 2 ? 1 : 2;
        int value = fact == 0 ? (int) (s2 % 3) : 1;
        due(33, "a day", d.weeks(0, 1), 1);
        for (int p = 0; p < 3; p++) {
            for (int f = 0; f < 3; f++) {
                due(34, "drawn " + p + " " + f, d.drawn(p, f), p == at && f == fact ? value : 0);
                due(33, "on paper alone", d.of(p, f), 0);
            }
        }
        due(33, "on paper alone: day", d.count(12), 0);
        due(34, "no syllable", d.drawn(3, 0), NONE);
        due(34, "no syllable below", d.drawn(-1, 0), NONE);
        due(34, "what", d.drawn(0, 3), NONE);
        due(34, "what below", d.drawn(0, -1), NONE);
        d.syllable(0, 0, 0);
        due(34, "it was not there", d.drawn(3, 0), NONE);
        due(33, "of sixty days", d.weeks(1000000, 60) >= 0 ? 1 : 0, 1);
        d.terms(0, 997);
        Texts.metre(d, "any any any any");
        Texts.law(d, "bars if day=998");
        d.force(0);
        due(33, "two days are left, on one it is barred", d.weeks(7, 60), 1);
        d.terms(0, 999);
        due(33, "no day is left", d.weeks(7, 60), 0);
        due(34, "as it stands", d.drawn(3, 0), 0);
        ScansionDesk e = new ScansionDesk();
        due(33, "no syllables", e.weeks(0, 1), -3);
        due(33, "no syllables, bad", e.weeks(-1, 1), -1);
        due(38, "status", e.status(), -1);
    }

    private static void images() {
        ScansionDesk d = desk("000", "100");
        Texts.metre(d, "any any");
        Texts.law(d, "bars if place=0");
        d.terms(1, 3);
        d.heard(1, 1);
        due(35, "image", d.image(0), 0);
        due(35, "bad image", d.image(2), -1);
        due(35, "bad image below", d.image(-1), -1);
        due(36, "not kept", d.back(1), -2);
        due(36, "bad back", d.back(2), -1);
        due(36, "bad back below", d.back(-1), -1);
        d.weigh(0, 2);
        d.ends(0);
        d.meets(1);
        d.force(0);
        d.terms(0, 5);
        d.terms(1, 4);
        d.terms(2, 6);
        d.forget();
        d.syllable(2, 1, 1);
        Texts.metre(d, "long long long");
        Texts.law(d, "allows");
        d.image(1);
        due(36, "back", d.back(0), 0);
        due(36, "syllables", d.count(0), 2);
        due(36, "line", d.of(0, 0) * 100 + d.of(0, 1) * 10 + d.of(1, 2), 0);
        due(36, "metres", d.count(1), 1);
        due(36, "laws", d.count(3), 1);
        due(36, "heard", d.count(2), 1);
        due(36, "force", d.count(11), NONE);
        due(36, "terms", d.count(12) * 100 + d.count(13) * 10 + d.count(14), 30);
        due(36, "what was heard", d.canBe(), 1);
        due(36, "another metre there", Texts.metre(d, "cut"), 1);
        due(36, "another law there", Texts.law(d, "bars"), 1);
        due(36, "images stay", d.back(1), 0);
        due(36, "its metre", d.length(1, 0), 3);
        due(36, "its line", d.count(0), 3);
        due(36, "its law", d.compare(1, 1), 0);
        due(36, "its terms", d.count(12) * 100 + d.count(13) * 10 + d.count(14), 546);
        due(36, "its force", d.count(11), 0);
        d.forget();
        d.heard(0, 1);
        due(36, "heard otherwise", d.canBe(), 0);
        due(36, "back again", d.back(0), 0);
        due(36, "heard as it was", d.canBe(), 1);
        d.heard(1, 0);
        due(36, "heard more", d.canBe(), 0);
        notKept();
    }

    private static void notKept() {
        ScansionDesk d = desk("000", "000");
        d.image(0);
        d.weigh(0, 1);
        d.weeks(3, 5);
        int drawn = d.drawn(0, 0) * 100 + d.drawn(0, 1) * 10 + d.drawn(0, 2);
        Texts.orders(d, "pass; end 9");
        rowOf(d, "xxxx");
        d.weigh(0, 9);
        Texts.metre(d, "long x");
        Texts.put(d, "long");
        due(36, "back", d.back(0), 0);
        due(36, "tape stays", d.count(5), 4);
        due(36, "fault stays", d.fault(), 5);
        due(36, "mutes stay", d.mutes(), 2);
        due(36, "stopped stays", d.stopped(), 1);
        due(36, "nothing to undo", d.count(4), 0);
        due(36, "weeks stay", d.drawn(0, 0) * 100 + d.drawn(0, 1) * 10 + d.drawn(0, 2), drawn);
        due(36, "refusals stay", d.count(6) * 100 + d.count(8) * 10 + d.count(10), 111);
    }

    private static void counts() {
        ScansionDesk d = desk("000");
        d.syllable(9, 0, 0);
        d.terms(9, 0);
        d.ends(9);
        d.back(0);
        d.force(9);
        d.undo();
        for (int k = 0; k < 7; k++) {
            d.heard(0, 0);
        }
        d.row();
        d.metre();
        d.law();
        d.orders();
        int[] want = {1, 0, 6, 0, 0, 0, 2, 3, 1, 1, 4, NONE, 0, 1, 0};
        for (int k = 0; k < want.length; k++) {
            due(37, "count(" + k + ")", d.count(k), want[k]);
        }
        due(37, "below", d.count(-1), NONE);
        due(37, "above", d.count(15), NONE);
        due(37, "far below", d.count(Integer.MIN_VALUE), NONE);
        due(37, "far above", d.count(Integer.MAX_VALUE), NONE);
        // answers that are NONE are no refusals
        d.best(9, 0);
        d.end(-1);
        d.drawn(9, 9);
        d.few(0, 0);
        d.compare(9, 9);
        due(37, "still two", d.count(6), 2);
    }

    private static void status() {
        ScansionDesk d = desk("000");
        d.orders();
        due(38, "orders", d.status(), -6);
        d.forget();
        d.fits();
        d.feed(0, 0, 0, 0, 0);
        d.end(0);
        d.best(0, 0);
        d.count(0);
        d.fault();
        due(38, "others leave it", d.status(), -6);
        d.weigh(0, 1);
        due(38, "weigh", d.status(), 0);
        d.weigh(0, 1);
        due(38, "weigh again", d.status(), -3);
        d.undo();
        due(38, "undo", d.status(), 0);
        d.undo();
        due(38, "undo again", d.status(), -3);
        d.image(0);
        due(38, "image", d.status(), 0);
        d.back(1);
        due(38, "back", d.status(), -2);
        d.force(NONE);
        due(38, "force, though it answers NONE", d.status(), 0);
        d.weeks(0, 0);
        due(38, "weeks", d.status(), -1);
        d.pass();
        due(38, "pass", d.status(), 0);
        d.ends(5);
        due(38, "ends", d.status(), -2);
        d.meets(0);
        due(38, "meets", d.status(), 0);
        d.heard(20, 0);
        due(38, "heard", d.status(), -1);
        d.terms(0, 0);
        due(38, "terms", d.status(), 0);
        d.law();
        due(38, "law", d.status(), -6);
        d.heard(0, 0);
        due(38, "heard again", d.status(), 0);
        d.metre();
        due(38, "metre", d.status(), -6);
        d.syllable(0, 0, 0);
        due(38, "syllable", d.status(), 0);
        d.row();
        due(38, "row", d.status(), -6);
    }

    public static void main(String[] args) {
        newObject();
        syllables();
        terms();
        tape();
        rows();
        metres();
        laws();
        sums();
        ways();
        orderTexts();
        orders();
        changes();
        undo();
        numbersOfMetres();
        best();
        elisionsAndCuts();
        mendAndReach();
        longLine();
        hearing();
        few();
        weeks();
        images();
        counts();
        status();
        System.out.println(right + " answers as due, " + wrong + " not");
        if (wrong != 0) {
            System.exit(1);
        }
    }
}
