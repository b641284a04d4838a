/** Each sentence of the document's Terms II on LAWS and ORDERS that names a boundary case. */
public final class LawsOrdersTest {
    private static final int NONE = ScansionDesk.NONE;
    private static final String ALL_WORDS = "long short any cut or times costs allows bars if and not place weight as ends"
        + " meets count day mood weigh to end meet pass done latest scans";
    private static final String BILLION = "1000*1000*1000";

    private static int lawFault(String law) {
        return Desks.lawFault(law);
    }

    private static int ordersFault(String orders) {
        return Desks.ordersFault(orders);
    }

    private static ScansionDesk byLaw(String law, String... syllables) {
        ScansionDesk d = Desks.of(syllables);
        Texts.law(d, law);
        d.force(0);
        return d;
    }

    /** What a short syllable costs as short: 7, if the sum is BROKEN. */
    private static int costs(String sum) {
        return byLaw("costs 7;costs " + sum, "000").of(0, 6);
    }

    /** "so", "not so" or "broken": what a law and orders make of a test. */
    private static String test(String test) {
        boolean so = byLaw("bars if " + test, "000").of(0, 3) == 0;
        boolean notSo = byLaw("bars if not(" + test + ")", "000").of(0, 3) == 0;
        String law = so && notSo ? "both" : so ? "so" : notSo ? "not so" : "broken";
        boolean run = Texts.orders(new ScansionDesk(), "pass if " + test) == 1;
        boolean notRun = Texts.orders(new ScansionDesk(), "pass if not(" + test + ")") == 1;
        String orders = run && notRun ? "both" : run ? "so" : notRun ? "not so" : "broken";
        return law.equals(orders) ? law : law + " in a law, " + orders + " in orders";
    }

    // ---- clauses, parts

    private static void twelveClauses() {
        Due.by("II", "CLAUSE {\";\" CLAUSE}, 12 at most (FAULT at the 13th's first TOKEN)");
        Due.is("12 in a law", lawFault(Texts.repeat("bars", ";", 12)), NONE);
        Due.is("13 in a law", lawFault(Texts.repeat("bars", "; ", 13)), 72);
        Due.is("12 in orders", ordersFault(Texts.repeat("end 0", ";", 11) + ";pass"), NONE);
        Due.is("13 in orders", ordersFault(Texts.repeat("pass", " ;  ", 13)), 96);
        Due.is("a 13th of nothing", lawFault(Texts.repeat("bars", ";", 12) + "; "), 61);
        Due.is("a 13th that is none", lawFault(Texts.repeat("bars", ";", 12) + ";x"), 60);
        Due.is("one of nothing", lawFault("bars;;bars"), 5);
        Due.is("nothing ahead", lawFault(";bars"), 0);
        Due.is("nothing behind", ordersFault("pass;"), 5);
        Due.is("nothing at all", ordersFault("   "), 3);
        ScansionDesk d = new ScansionDesk();
        Due.is("all 12 are run", Texts.orders(d, Texts.repeat("pass", ";", 12)), 12);
        ScansionDesk e = byLaw(Texts.repeat("costs 3", ";", 11) + ";costs 4", "000");
        Due.is("the 12th is asked", e.of(0, 6), 4);
        ScansionDesk f = new ScansionDesk();
        Due.is("the 12th can't be", Texts.orders(f, Texts.repeat("pass", ";", 11) + ";end 0"), -3);
        Due.is("it is the 11th, from 0 on", f.stopped(), 11);
    }

    private static void heads() {
        Due.by("II", "LAWS ..: CLAUSE: (\"costs\" SUM | \"allows\" | \"bars\") [\"if\" TEST]");
        Due.is("costs without a sum", lawFault("costs if 1=1"), 6);
        Due.is("costs, the end", lawFault("costs"), 5);
        Due.is("allows with a sum", lawFault("allows 1"), 7);
        Due.is("bars with times", lawFault("bars times 2"), 5);
        Due.is("if without a test", lawFault("bars if"), 7);
        Due.is("if twice", lawFault("bars if 1=1 if 1=1"), 12);
        Due.is("a test that is no comparison", lawFault("bars if 1"), 9);
        Due.is("a comparison of three", lawFault("bars if 1<2<3"), 11);
        Due.is("a test in brackets as a part", lawFault("bars if (1+1)=2"), 12);
        Due.is("a sum in the other brackets", lawFault("bars if [1+1]=2"), NONE);
        Due.is("a test in the other brackets", lawFault("bars if [1=1]"), 10);
        Due.is("a sum that begins with a sign", lawFault("costs -1"), 6);
        Due.is("two signs", lawFault("costs 1--1"), 8);
        Due.is("not ahead of a sum", lawFault("costs not 1"), 6);
        Due.is("not, the end", lawFault("bars if not"), 11);
        Due.is("a hundred times not", lawFault("bars if " + Texts.repeat("not", " ", 95) + " 1=1"), NONE);

        for (String word : ALL_WORDS.split(" ")) {
            boolean head = word.equals("costs") || word.equals("allows") || word.equals("bars");
            Due.is(word + " ahead of a law", lawFault(word + " 1"), word.equals("costs") ? NONE : head ? word.length() + 1 : 0);
        }

        Due.by("II", "ORDERS: CLAUSE: (\"weigh\" SUM \"to\" SUM | \"end\" SUM | \"meet\" SUM | \"pass\") [\"times\" TIMES] [\"if\" TEST]");
        for (String word : ALL_WORDS.split(" ")) {
            boolean one = word.equals("end") || word.equals("meet");
            boolean head = one || word.equals("weigh") || word.equals("pass");
            Due.is(word + " ahead of orders", ordersFault(word + " 1"), one ? NONE : word.equals("weigh") ? 7 : head ? 5 : 0);
        }
        Due.is("weigh without to", ordersFault("weigh 0 1"), 8);
        Due.is("weigh to nothing", ordersFault("weigh 0 to if 1=1"), 11);
        Due.is("end to", ordersFault("end 0 to 1"), 6);
        Due.is("end without a sum", ordersFault("end times 2"), 4);
        Due.is("pass with a sum", ordersFault("pass 1"), 5);
        Due.is("times behind if", ordersFault("pass if 1=1 times 2"), 12);
        Due.is("times twice", ordersFault("pass times 2 times 2"), 13);
        Due.is("times ahead", ordersFault("times 2 pass"), 0);

        Due.by("II", "TIMES: a NUMBER 1 .. 20");
        Due.is("0", ordersFault("pass times 0"), 11);
        Due.is("1", Texts.orders(new ScansionDesk(), "pass times 1"), 1);
        Due.is("20", Texts.orders(new ScansionDesk(), "pass times 20"), 20);
        Due.is("21", ordersFault("pass times 21"), 11);
        Due.is("4294967297, which is 1 in 32 bits", ordersFault("pass times 4294967297"), 11);
        Due.is("no number", ordersFault("pass times day"), 11);
        Due.is("the end", ordersFault("pass times"), 10);
        Due.is("once without", Texts.orders(new ScansionDesk(), "pass"), 1);

        Due.by("II", "(S: a NUMBER 0 .. 19, M: 0 .. 5)");
        Due.is("S 19", ordersFault("pass if weight 19=0"), NONE);
        Due.is("S 20", ordersFault("pass if weight 20=0"), 15);
        Due.is("S 4294967296, which is 0 in 32 bits", ordersFault("pass if weight 4294967296=0"), 15);
        Due.is("no S", ordersFault("pass if weight=0"), 14);
        Due.is("an S in brackets", ordersFault("pass if weight [0]=0"), 15);
        Due.is("M 5", ordersFault("pass if scans 5=0"), NONE);
        Due.is("M 6", ordersFault("pass if scans 6=0"), 14);
        Due.is("no M", ordersFault("pass if scans"), 13);
        Due.is("M, a word", ordersFault("pass if scans day=0"), 14);
    }

    private static void parts() {
        Due.by("II", "PART: NUMBER (to 1,000)");
        Due.is("0", lawFault("costs 0"), NONE);
        Due.is("1000", lawFault("costs 1000"), NONE);
        Due.is("1001", lawFault("costs 1001"), 6);
        Due.is("1001 in orders", ordersFault("end 1001"), 4);
        Due.is("4294967296, which is 0 in 32 bits", lawFault("costs 4294967296"), 6);
        Due.is("400 digits", lawFault("costs " + Texts.repeat("9", "", 394)), 6);
        Due.is("1000 behind noughts", lawFault("costs " + Texts.repeat("0", "", 380) + "1000"), NONE);

        Due.by("II", "50 PARTS that are NUMBERS and words (FAULT at the 51st) at most");
        Due.is("50 numbers", lawFault("costs " + Texts.repeat("1", "+", 50)), NONE);
        Due.is("51 numbers", lawFault("costs " + Texts.repeat("1", "+", 51)), 106);
        Due.is("50 words", lawFault("costs " + Texts.repeat("day", "*", 50)), NONE);
        Due.is("51 words", lawFault("costs " + Texts.repeat("day", "*", 51)), 206);
        Due.is("brackets are none", lawFault("costs " + Texts.repeat("[[1]]", "-", 50)), NONE);
        Due.is("51 in brackets", lawFault("costs " + Texts.repeat("[[1]]", "-", 51)), 6 + 50 * 6 + 2);
        Due.is("a 51st that is none", lawFault("costs " + Texts.repeat("1", "+", 50) + "+x"), 106);
        Due.is("a 51st that is missing at the end", lawFault("costs " + Texts.repeat("1", "+", 50) + ";costs "), 112);
        Due.is("a 51st that is missing ahead of if", lawFault("costs " + Texts.repeat("1", "+", 50) + ";costs if"), 112);
        Due.is("a 51st that is missing in orders", ordersFault("end " + Texts.repeat("1", "+", 50) + ";end times 2"), 108);
        Due.is("of all clauses", lawFault("bars if 1=1;costs " + Texts.repeat("1", "+", 48)), NONE);
        Due.is("of all clauses, 51", lawFault("bars if 1=1;costs " + Texts.repeat("1", "+", 49)), 18 + 96);
        Due.is("the 51st in a test", lawFault("costs " + Texts.repeat("1", "+", 49) + " if 1=1"), 6 + 97 + 6);
        Due.is("of both sums", ordersFault("weigh " + Texts.repeat("1", "+", 30) + " to " + Texts.repeat("1", "+", 20)), NONE);
        Due.is("of both sums, 51", ordersFault("weigh " + Texts.repeat("1", "+", 30) + " to " + Texts.repeat("1", "+", 21)),
            6 + 59 + 4 + 40);

        Due.by("II", "S, M, TIMES aside, NUMBERS and words count as PARTS");
        Due.is("50 with S", ordersFault("end " + Texts.repeat("scans 5", "+", 10) + "+" + Texts.repeat("day", "+", 40)), NONE);
        Due.is("51 with S", ordersFault("end " + Texts.repeat("scans 5", "+", 10) + "+" + Texts.repeat("day", "+", 41)), 4 + 80 + 160);
        Due.is("50 with M", ordersFault("end " + Texts.repeat("weight 19", "+", 10) + "+" + Texts.repeat("1", "+", 40)), NONE);
        Due.is("51 with M", ordersFault("end " + Texts.repeat("weight 19", "+", 10) + "+" + Texts.repeat("1", "+", 41)), 4 + 100 + 80);
        Due.is("the 51st, weight", ordersFault("end " + Texts.repeat("1", "+", 50) + "+weight 20"), 104);
        Due.is("50 with TIMES", ordersFault("pass times 20;pass times 20;end " + Texts.repeat("1", "+", 50) + " times 20"), NONE);
        Due.is("51 with TIMES", ordersFault("pass times 20;end " + Texts.repeat("1", "+", 50) + " times 20 if 1=1"),
            14 + 4 + 99 + 13);

        Due.by("II", "a word, as told .. Words: \"place\" | \"weight\" | \"as\" | \"ends\" | \"meets\" | \"count\" | \"day\" | \"mood\"");
        for (String word : new String[] {"place", "weight", "as", "ends", "meets", "count", "day", "mood"}) {
            Due.is("law: " + word, lawFault("costs " + word), NONE);
        }
        for (String word : new String[] {"done", "latest", "scans", "costs", "allows", "bars", "if", "times", "long",
                "short", "any", "cut", "or", "and", "not", "weigh", "to", "end", "meet", "pass", "slips"}) {
            Due.is("law: " + word, lawFault("costs " + word), 6);
        }
        Due.is("law: weight has no S", lawFault("costs weight 0"), 13);
        Due.by("II", "Words: \"day\" | \"done\" | \"latest\" | \"count\" | \"weight\" S | \"scans\" M");
        for (String word : new String[] {"day", "done", "latest", "count", "weight 0", "scans 0"}) {
            Due.is("orders: " + word, ordersFault("end " + word), NONE);
        }
        for (String word : new String[] {"place", "as", "ends", "meets", "mood", "long", "short", "any", "cut", "or", "and",
                "not", "costs", "allows", "bars", "if", "times", "weigh", "to", "end", "meet", "pass", "slips"}) {
            Due.is("orders: " + word, ordersFault("end " + word), 4);
        }
    }

    // ---- what is BROKEN

    private static void broken() {
        Due.by("II", "Beyond 1,000,000,000 either way .. a SUM, a TEST is BROKEN");
        Due.is("1,000,000,000", costs(BILLION), 99);
        Due.is("1,000,000,001", costs(BILLION + "+1"), 7);
        Due.is("-1,000,000,000", costs("0-" + BILLION), 0);
        Due.is("-1,000,000,001", costs("0-" + BILLION + "-1"), 7);
        Due.is("-1,000,000,001 by +", costs("0-" + BILLION + "+[0-1]"), 7);
        Due.is("1,000,000,001 by -", costs(BILLION + "-[0-1]"), 7);
        Due.is("1,000,001,000 by *", costs("1000*1000*[1000+1]/1000"), 7);
        Due.is("-1,000,001,000 by *", costs("[0-1000]*1000*[1000+1]/1000"), 7);
        Due.is("what fits again behind it", costs(BILLION + "+1-" + BILLION), 7);
        Due.is("what fits all along", costs(BILLION + "-" + BILLION + "+5"), 5);
        Due.is("a product that wraps around in 32 bits", costs("[" + BILLION + "]*[" + BILLION + "]"), 7);
        Due.is("a product that wraps around to 0 in 64 bits", costs("[512*512*1000]*[512*512*1000]*[512*512*1000]*0"), 7);
        Due.is("in a test", test(BILLION + "+1>0"), "broken");
        Due.is("in a test, as large as can be", test(BILLION + ">0"), "so");
        Due.is("on the right", test("0<" + BILLION + "*2"), "broken");
        Due.is("1,000,000,000 is itself", test(BILLION + "=" + BILLION), "so");

        Due.by("II", "or divided by 0 (/ cut towards 0, % what is left then)");
        Due.is("/ 0", costs("1/0"), 7);
        Due.is("% 0", costs("1%0"), 7);
        Due.is("0 / 0", costs("0/0"), 7);
        Due.is("0 % 0", costs("0%0"), 7);
        Due.is("/ what comes to 0", costs("5/[3-3]"), 7);
        Due.is("0 / 5", costs("0/5"), 0);
        Due.is("0 % 5", costs("0%5+3"), 3);
        Due.is("7 / 2", costs("7/2"), 3);
        Due.is("-7 / 2", costs("[0-7]/2+50"), 47);
        Due.is("7 / -2", costs("7/[0-2]+50"), 47);
        Due.is("-7 / -2", costs("[0-7]/[0-2]+50"), 53);
        Due.is("7 % -2", costs("7%[0-2]+50"), 51);
        Due.is("-7 % 2", costs("[0-7]%2+50"), 49);
        Due.is("-7 % -2", costs("[0-7]%[0-2]+50"), 49);
        Due.is("-1,000,000,000 / -1", costs("[0-" + BILLION + "]/[0-1]"), 99);
        Due.is("-1,000,000,000 % -1", costs("[0-" + BILLION + "]%[0-1]+5"), 5);
        Due.is("in a test", test("1/0=1/0"), "broken");
    }

    private static void brokenTests() {
        Due.by("II", "\"or\", \"and\" ask what stands behind only if it can still matter; a part that was asked and is BROKEN makes all of it BROKEN");
        String x = "1/0=1";
        String so = "1=1";
        String no = "1=0";
        Due.is("so or x", test(so + " or " + x), "so");
        Due.is("not so or x", test(no + " or " + x), "broken");
        Due.is("x or so", test(x + " or " + so), "broken");
        Due.is("not so and x", test(no + " and " + x), "not so");
        Due.is("so and x", test(so + " and " + x), "broken");
        Due.is("x and not so", test(x + " and " + no), "broken");
        Due.is("so or x and x", test(so + " or " + x + " and " + x), "so");
        Due.is("not so and x or so", test(no + " and " + x + " or " + so), "so");
        Due.is("not so and x or x", test(no + " and " + x + " or " + x), "broken");
        Due.is("so or x or x", test(so + " or " + x + " or " + x), "so");
        Due.is("not so and x and x", test(no + " and " + x + " and " + x), "not so");
        Due.is("so and not so and x", test(so + " and " + no + " and " + x), "not so");
        Due.is("not so or so or x", test(no + " or " + so + " or " + x), "so");
        Due.is("so and so or x", test(so + " and " + so + " or " + x), "so");
        Due.is("(not so and x)or not so", test("(" + no + " and " + x + ")or " + no), "not so");
        Due.is("(so or x)and so", test("(" + so + " or " + x + ")and " + so), "so");
        Due.is("not x", test("not " + x), "broken");
        Due.is("not not x or so", test("not not " + x + " or " + so), "broken");
        Due.is("so or not x", test(so + " or not " + x), "so");
        Due.is("not(so or x)", test("not(" + so + " or " + x + ")"), "not so");
        Due.is("a broken sum on the right of a comparison", test("0<1/0 or " + so), "broken");
        Due.is("and binds more than or", test(so + " or " + so + " and " + no), "so");
        Due.is("not binds more than and", test("not " + no + " and " + no), "not so");
        Due.is("<, >, = of the same", test("1<1 or 1>1 or not 1=1"), "not so");
        Due.is("from the left", test("10-2-3=5 and 100/10/5=2 and 17%10%4=3 and 2*7/3=4 and 1+2*3=7"), "so");
    }

    // ---- laws

    private static void sixLaws() {
        Due.by("II", "LAWS, 6 at most; one is in FORCE (NONE at first: no CLAUSE)");
        ScansionDesk d = Desks.of("000");
        Due.is("in force at first", d.count(11), NONE);
        for (int k = 0; k < 6; k++) {
            Due.is("a law", Texts.law(d, "costs " + (k + 10)), k);
        }
        Due.is("none is in force for being read", d.count(11), NONE);
        Due.is("no clause", d.of(0, 6), 0);
        Due.is("the seventh", Texts.law(d, "bars"), -5);
        Due.is("how many", d.count(3), 6);
        for (int k = 0; k < 6; k++) {
            Due.is("which was", d.force(k), k - 1);
            Due.is("by it", d.of(0, 6), k + 10);
        }
        Due.is("behind the last", d.force(6), -2);
        Due.is("the last stays", d.count(11), 5);
        Due.is("none again", d.force(NONE), 5);
        Due.is("no clause", d.of(0, 6), 0);
    }

    private static void lawWords() {
        Due.by("II", "as: v; place: its number; ends, meets: 1, 0; count: how many SYLLABLES there are; day: DAY as it is then");
        ScansionDesk d = byLaw("costs as+10*[place=0]", "000");
        Due.is("a test is no part", d.count(3), 0);
        ScansionDesk e = Desks.full("211");
        e.terms(0, 31);
        e.terms(2, 9);
        String[] words = {"place", "weight", "as", "ends", "meets", "count", "day", "mood"};
        int[] last = {19, 2, 1, 1, 1, 20, 31, 9};
        int[] first = {0, 2, 1, 1, 1, 20, 31, 9};
        for (int k = 0; k < words.length; k++) {
            e.image(0);
            Texts.law(e, "costs " + words[k]);
            e.force(0);
            Due.is(words[k] + " of the last", e.of(19, 7), last[k]);
            Due.is(words[k] + " of the first", e.of(0, 7), first[k]);
            e.back(0);
        }
        Texts.law(e, "costs as*10+ends*4+meets*2+weight");
        e.force(0);
        Due.is("as 0", e.of(3, 6), 8);
        Due.is("as 2", e.of(3, 8), 28);
        e.ends(3);
        e.meets(3);
        e.weigh(3, 0);
        Due.is("0 as 0", e.of(3, 6), 0);
        Texts.law(e, "costs day%100");
        e.force(1);
        e.terms(0, 999);
        Due.is("as it is then", e.of(0, 6), 99);
        e.terms(0, 0);
        Due.is("as it is then, 0", e.of(0, 6), 0);
    }

    private static void whatCanBeRead() {
        Due.by("II", "A CLAUSE HOLDS, if its \"if\" (if it has one) is so, and neither that nor its SUM is BROKEN");
        Due.is("without if", byLaw("bars", "200", "200").of(0, 3), 0);
        Due.is("if it is so", byLaw("bars if as=0", "200").of(0, 3), 0);
        Due.is("if it is not so", byLaw("bars if as=1", "200").of(0, 3), 1);
        Due.is("a broken if", byLaw("bars if 1/0=1;allows if 1/0=1", "100").of(0, 3), 0);
        Due.is("a broken if bars nothing", byLaw("bars if 1/0=1", "000").of(0, 3), 1);
        Due.is("costs with a broken if", byLaw("costs 5 if 1/0=1", "000").of(0, 6), 0);
        Due.is("costs with a broken sum", byLaw("costs 5;costs 1/0", "000").of(0, 6), 5);
        Due.is("a sum that is broken as 0 alone", byLaw("costs 8/as", "200").of(0, 6), 0);
        Due.is("a sum that is not broken as 1", byLaw("costs 8/as", "200").of(0, 7), 8);

        Due.by("II", "A SYLLABLE CAN be READ as 0 or 1, if its WEIGHT is that or 2 or \"allows\" HOLDS, as 2, if it MEETS and is not the last one, each if \"bars\" does not HOLD");
        Due.is("no law", Desks.ways(Desks.of("000", "100", "200", "001", "101", "201", "201")), "0 1 01 02 12 012 01");
        Due.is("one syllable", Desks.ways(Desks.of("001")), "0");
        ScansionDesk grown = Desks.of("001");
        grown.syllable(1, 0, 1);
        Due.is("the last one no more", Desks.ways(grown), "02 1");
        Due.is("allows", Desks.ways(byLaw("allows", "000", "100", "001", "201", "001")), "01 01 012 012 01");
        Due.is("allows as 2", Desks.ways(byLaw("allows if as=2", "000", "001", "001")), "0 02 0");
        Due.is("bars", Desks.ways(byLaw("bars", "201", "200")), "- -");
        Due.is("bars behind allows", Desks.ways(byLaw("allows;bars", "001", "200")), "- -");
        Due.is("bars ahead of allows", Desks.ways(byLaw("bars;allows", "001", "200")), "- -");
        Due.is("bars as 2", Desks.ways(byLaw("bars if as=2", "201", "201", "200")), "01 01 01");
        Due.is("bars as 1, allows", Desks.ways(byLaw("allows;bars if as=1", "101", "000")), "02 0");
        Due.is("two that bar", Desks.ways(byLaw("bars if as=0;bars if as=1", "201", "000")), "2 -");
        Due.is("the last that holds does not undo", Desks.ways(byLaw("bars if as=0;bars if as=9", "200")), "1");
    }

    private static void whatItCosts() {
        Due.by("II", "That COSTS 0 .. 99 as the last \"costs\" that HOLDS tells (else the nearest)");
        Due.is("99", costs("99"), 99);
        Due.is("100", costs("100"), 99);
        Due.is("0", costs("0"), 0);
        Due.is("-1", costs("0-1"), 0);
        Due.is("the last", byLaw("costs 5;costs 3;costs 4", "000").of(0, 6), 4);
        Due.is("the last that holds", byLaw("costs 5;costs 3;costs 4 if as=1", "000").of(0, 6), 3);
        Due.is("not ahead of the nearest", byLaw("costs 500;costs 0-500;costs 98", "000").of(0, 6), 98);
        Due.is("of 2, too", byLaw("costs 50", "001", "000").of(0, 8), 50);
        Due.is("though it can't be", byLaw("bars;costs 50", "000").of(0, 7), 50);

        Due.by("II", "without 0 as its WEIGHT is or if that is 2, 1 otherwise, 1 as 2");
        ScansionDesk d = Desks.of("000", "100", "200", "001", "101", "201", "000");
        StringBuilder told = new StringBuilder();
        for (int p = 0; p < d.count(0); p++) {
            told.append(p > 0 ? " " : "").append(d.of(p, 6)).append(d.of(p, 7)).append(d.of(p, 8));
        }
        Due.is("without a law", told.toString(), "011 101 001 011 101 001 011");
        Due.is("allowed otherwise", byLaw("allows", "000").of(0, 7), 1);
        Due.is("costs that does not hold", byLaw("costs 9 if as=1", "100").of(0, 6), 1);
        Due.is("costs that does not hold, as 2", byLaw("costs 9 if as=1", "201", "000").of(0, 8), 1);
    }

    // ---- orders

    private static void eachTime() {
        Due.by("II", "Run CLAUSE by CLAUSE, each as often as TIMES tell (once without); each time its \"if\" is asked (not run, if it is not so or BROKEN)");
        ScansionDesk d = Desks.of("000", "000");
        Due.is("asked each time", Texts.orders(d, "pass times 20 if day<7"), 7);
        Due.is("not so", Texts.orders(d, "pass if day<7"), 0);
        Due.is("that is no refusal", d.status(), 0);
        Due.is("broken", Texts.orders(d, "pass times 3 if 1/0=1"), 0);
        Due.is("broken the first time alone", Texts.orders(d, "end 0 if 9/done<9 or 1=1;pass;end 0 if 9/done>0"), 2);
        Due.is("the if is asked ahead of the sums", Texts.orders(d, "end 1/0 if 1=0"), 0);
        Due.is("clause by clause", Texts.orders(d, "weigh 0 to 2;weigh 0 to 1;weigh 0 to 2;weigh 0 to 0"), 4);
        Due.is("a clause's sums are told anew", Texts.orders(d, "weigh done to 1+done times 2"), 2);
        Due.is("the line", Desks.line(d), "110 200");
        Due.is("nothing was run", Texts.orders(d, "pass if 1=0;end 0 if 1=0"), 0);

        Due.by("II", "done: how many were run in this TEXT");
        Due.is("0 at first", Texts.orders(d, "pass if done=0"), 1);
        Due.is("0 in the next", Texts.orders(d, "pass if done=0;pass times 4 if done>0;end 1 if done=5"), 6);
        Due.is("those not run aside", Texts.orders(d, "pass if 1=0;pass if done=0"), 1);
        Due.is("240 of them", Texts.orders(d, Texts.repeat("end 0 times 20", ";", 12)), 240);

        Due.by("II", "latest: what the latest pass in it told (-1: none)");
        Texts.metre(d, "any any");
        Texts.metre(d, "any any any or any any");
        Due.is("none", Texts.orders(d, "end 0 if latest=0-1"), 1);
        Due.is("two metres", Texts.orders(d, "pass;end 0 if latest=2"), 2);
        Due.is("none again in the next", Texts.orders(d, "end 0 if latest=0-1"), 1);
        Due.is("other orders leave it", Texts.orders(d, "pass;end 0;meet 0;weigh 0 to 2;end 0 if latest=2"), 5);
        Due.is("one that is not run leaves it", Texts.orders(d, "pass;pass if 1=0;end 0 if latest=2"), 2);
    }

    private static void wordsWithout() {
        Due.by("II", "weight: of a SYLLABLE, scans: 1, if a METRE TAKES the line, 0 else; -1 each without such a one");
        ScansionDesk d = Desks.of("100", "200");
        Due.is("weight 0", Texts.orders(d, "pass if weight 0=1"), 1);
        Due.is("weight 1", Texts.orders(d, "pass if weight 1=2"), 1);
        Due.is("weight 2: without", Texts.orders(d, "pass if weight 2=0-1"), 1);
        Due.is("weight 19: without", Texts.orders(d, "pass if weight 19=0-1"), 1);
        Due.is("scans 0: without", Texts.orders(d, "pass if scans 0=0-1"), 1);
        Due.is("scans 5: without", Texts.orders(d, "pass if scans 5=0-1"), 1);
        Texts.metre(d, "long any");
        Texts.metre(d, "short any");
        Due.is("scans 0", Texts.orders(d, "pass if scans 0=1"), 1);
        Due.is("scans 1", Texts.orders(d, "pass if scans 1=0"), 1);
        Due.is("scans 2: without", Texts.orders(d, "pass if scans 2=0-1"), 1);
        Due.is("as it is then", Texts.orders(d, "weigh 0 to 0;pass if scans 1=1;pass if scans 0=0;pass if weight 0=0"), 4);
        Due.is("by the law in force", Texts.law(d, "bars if day>900"), 0);
        d.force(0);
        d.terms(0, 900);
        Due.is("on its day", Texts.orders(d, "end 0 if scans 1=1;pass;end 0 if scans 1=0"), 3);
        ScansionDesk e = new ScansionDesk();
        Texts.metre(e, "cut");
        Due.is("an empty line", Texts.orders(e, "pass if scans 0=1 and count=0 and weight 0=0-1"), 1);
        ScansionDesk f = Desks.full("100");
        for (int k = 0; k < 6; k++) {
            Texts.metre(f, "any times 9 any times 9 any any");
        }
        Due.is("weight 19, scans 5", Texts.orders(f, "pass if weight 19=1 and scans 5=1 and count=20"), 1);
    }

    private static void whollyOrNotAtAll() {
        Due.by("II", "One that can't be (a BROKEN SUM, as weigh(), ends() .., meets() .., pass() are REFUSED) ends it: all is as it was ahead of it");
        String[] cant = {"weigh 0 to 2", "weigh 0 to 3", "weigh 0 to 0-1", "weigh 3 to 0", "weigh 0-1 to 0", "weigh 20 to 0",
            "weigh 1/0 to 0", "weigh 0 to 1/0", "weigh 0 to 1%0", "weigh " + BILLION + "*2 to 1", "end 3", "end 0-1", "end 1/0",
            "end 1000*1000", "end 0-" + BILLION, "meet 3", "meet 0-1", "meet 1%0", "meet 20", "pass times 20"};
        for (String c : cant) {
            ScansionDesk d = Desks.of("101", "111", "000");
            Texts.metre(d, "any any");
            Texts.law(d, "costs place");
            d.terms(0, 990);
            d.heard(0, 1);
            d.image(0);
            d.weigh(1, 2);
            d.ends(1);
            String before = Desks.kept(d);
            int refused = d.count(8);
            Texts.orders(d, "meet 0 times 17;weigh 0 to 2;pass times 2;" + c + ";end 0;x");
            Due.is(c + ": -6, and nothing was run", Desks.kept(d), before);
            Due.is(c, Texts.orders(d, "meet 0 times 17;weigh 0 to 2;pass times 2;" + c + ";end 0"), -3);
            Due.is(c + ": stopped", d.stopped(), 3);
            Due.is(c + ": status", d.status(), -3);
            Due.is(c + ": refused once", d.count(8), refused + 1);
            Due.is(c + ": no other was refused", Desks.refusals(d), "0 0 1 0 1");
            Due.is(c + ": as it was", Desks.kept(d), before);
            Due.is(c + ": no fault", d.fault(), NONE);
            Due.is(c + ": to undo", d.count(4), 2);
            Due.is(c + ": undone", Desks.undone(d), "10");
            Due.is(c + ": as it was ahead of that", Desks.line(d), "101 111 000");
        }
        ScansionDesk e = Desks.of("000");
        e.terms(0, 998);
        Due.is("a pass at 998", Texts.orders(e, "pass"), 1);
        Due.is("a pass at 999", Texts.orders(e, "pass"), -3);
        Due.is("a pass at 999 that is not run", Texts.orders(e, "pass if day<999"), 0);
        Due.is("one that can't be and is not run", Texts.orders(e, "end 5 if count>5;weigh 0 to 9 times 20 if 1/0=0"), 0);
        Due.is("the second time", Texts.orders(e, "weigh 0 to 1 times 2"), -3);
        Due.is("as it was", Desks.line(e), "000");
    }

    /** What one text leaves must not stand in the way of a later one. */
    private static void manyTexts() {
        Due.by("II", "LAWS and ORDERS .. 50 PARTS that are NUMBERS and words (FAULT at the 51st) at most");
        ScansionDesk d = Desks.of("000");
        d.image(0);
        String fifty = "weigh 0 to " + Texts.repeat("1", "*", 24) + "+done if " + Texts.repeat("1", "*", 20) + "=1 and 1=1";
        for (int k = 0; k < 9; k++) {
            Due.is("orders of 50 parts", Texts.orders(d, fifty), 1);
            Due.is("orders of 51 parts", Texts.orders(d, fifty + " or 1=1"), -6);
            Due.is("a law of 50 parts", Texts.law(d, "costs " + Texts.repeat("1", "+", 50)), 0);
            Due.is("a law of 51 parts", Texts.law(d, "costs " + Texts.repeat("1", "+", 51)), -6);
            d.force(0);
            Due.is("of(0, 6)", d.of(0, 6), 50);
            Due.is("back", d.back(0), 0);
        }
    }

    public static void main(String[] args) {
        twelveClauses();
        heads();
        parts();
        broken();
        brokenTests();
        sixLaws();
        lawWords();
        whatCanBeRead();
        whatItCosts();
        eachTime();
        wordsWithout();
        whollyOrNotAtAll();
        manyTexts();
        Due.tell();
    }
}
