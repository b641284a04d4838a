import java.util.Arrays;

/**
 * A scansion desk: a line of syllables, metres and laws that are read from texts, orders that are
 * run wholly or not at all, and what metres make of the line. ../shared/DOC.md says what each call
 * answers; words in capitals in the comments are that document's.
 */
public final class ScansionDesk {
    public static final int NONE = -1;

    private static final int WRONG_NUMBER = -1;
    private static final int NO_SUCH = -2;
    private static final int NOT_NOW = -3;
    private static final int NO_ROOM = -5;
    private static final int UNREADABLE = -6;
    private static final int[] REFUSAL_CODES = {WRONG_NUMBER, NO_SUCH, NOT_NOW, NO_ROOM, UNREADABLE};

    private static final int MOST_SYLLABLES = 20;
    private static final int MOST_METRES = 6;
    private static final int MOST_LAWS = 6;
    private static final int MOST_HEARD = 6;
    private static final int MOST_UNDONE = 16;
    private static final int MOST_IMAGES = 2;
    private static final int MOST_BYTES = 400;
    private static final int MOST_BRACKETS = 8;
    private static final int MOST_STEPS = 200;
    private static final int MOST_NODES = 2 * MOST_STEPS;
    private static final int MOST_CLAUSES = 12;
    private static final int MOST_PARTS = 50;
    private static final int MOST_WEEKS = 60;
    private static final int MOST_SEED = 1000000;
    private static final int MOST_FEW = 20;
    private static final int MOST_SLIPPING = 99;

    private static final int EITHER = 2;
    private static final int ELIDED = 2;
    private static final int WAYS = 3;

    private static final int DAY = 0;
    private static final int SLIPS = 1;
    private static final int MOOD = 2;
    private static final int LAST_DAY = 999;
    private static final int[] HIGHEST_TERMS = {LAST_DAY, 10, 9};

    /** What is told of a syllable and, in the same numbers, what a change that can be undone changed. */
    private static final int WEIGHT = 0;
    private static final int ENDS = 1;
    private static final int MEETS = 2;
    private static final int FACTS = 3;
    private static final int PASSED = 3;

    private static final int ORDER_DAY = 0;
    private static final int ORDER_DONE = 1;
    private static final int ORDER_LATEST = 2;
    private static final int ORDER_COUNT = 3;
    private static final int ORDER_WEIGHTS = 4;
    private static final int ORDER_SCANS = ORDER_WEIGHTS + MOST_SYLLABLES;
    private static final int ORDER_WORDS = ORDER_SCANS + MOST_METRES;

    private static final long WHOLE_CHANCE = 1000000000000L;

    private final State now = new State();
    private final State aheadOfOrders = new State();
    private final State afterWeeks = new State();
    private final State[] images = new State[MOST_IMAGES];
    private final History history = new History();
    private final History historyAheadOfOrders = new History();
    private final Tape tape = new Tape();
    private final Tokens tokens = new Tokens();
    private final MetreReader metreReader = new MetreReader();
    private final ClauseReader clauseReader = new ClauseReader();
    private final Reckoner reckoner = new Reckoner();
    private final Scansion scansion = new Scansion();
    private final int[] orderWords = new int[ORDER_WORDS];
    private final long[] bestReadings = new long[MOST_METRES];
    private final long[] chances = new long[MOST_FEW];
    private final int[] refusals = new int[REFUSAL_CODES.length];
    private int latestRefusal;
    private int latestFault = NONE;
    private int latestMutes;
    private int latestStop = NONE;

    public ScansionDesk() {
    }

    public int syllable(int weight, int ends, int meets) {
        if (!State.isSyllable(weight, ends, meets)) {
            return refuse(WRONG_NUMBER);
        }
        if (!now.addSyllable(weight, ends, meets)) {
            return refuse(NO_ROOM);
        }
        history.size = 0;
        return accept(now.size - 1);
    }

    public int of(int syllable, int what) {
        if (!now.hasSyllable(syllable) || what < 0 || what > 8) {
            return NONE;
        }
        if (what < FACTS) {
            return now.told(syllable, what);
        }
        scansion.lookAt(now, now.lawAt(now.force));
        int v = what % WAYS;
        return what < 6 ? scansion.canRead(syllable, v) : scansion.costOf(syllable, v);
    }

    public int terms(int what, int value) {
        if (what < 0 || what >= HIGHEST_TERMS.length || value < 0 || value > HIGHEST_TERMS[what]) {
            return refuse(WRONG_NUMBER);
        }
        int was = now.termOf(what);
        now.setTerm(what, value);
        history.size = 0;
        return accept(was);
    }

    public int feed(int a, int b, int c, int d, int e) {
        if (!tape.hasRoomForFive()) {
            return NONE;
        }
        tape.addFour(a);
        tape.addFour(b);
        tape.addFour(c);
        tape.addFour(d);
        tape.addFour(e);
        return tape.size;
    }

    public int end(int n) {
        if (n < 0 || n > tape.size) {
            return NONE;
        }
        tape.size = n;
        return n;
    }

    public int row() {
        if (tape.size == 0) {
            return refuse(UNREADABLE);
        }
        int came = 0;
        int silent = 0;
        for (int from = 0; from < tape.size; from += 3) {
            // behind the tape's end there is NONE, which makes no syllable
            if (now.addSyllable(tape.byteAt(from), tape.byteAt(from + 1), tape.byteAt(from + 2))) {
                came++;
            } else {
                silent++;
            }
        }
        tape.size = 0;
        latestMutes = silent;
        history.size = 0;
        return accept(came);
    }

    public int mutes() {
        return latestMutes;
    }

    public int metre() {
        if (now.metreCount >= MOST_METRES) {
            tape.size = 0;
            return refuse(NO_ROOM);
        }
        tokens.readTape(tape);
        tape.size = 0;
        Metre read = metreReader.readText(tokens);
        latestFault = tokens.fault;
        if (read == null) {
            return refuse(UNREADABLE);
        }
        now.addMetre(read);
        return accept(now.metreCount - 1);
    }

    public int law() {
        if (now.lawCount >= MOST_LAWS) {
            tape.size = 0;
            return refuse(NO_ROOM);
        }
        tokens.readTape(tape);
        tape.size = 0;
        boolean good = clauseReader.readText(tokens, false);
        latestFault = tokens.fault;
        if (!good) {
            return refuse(UNREADABLE);
        }
        now.addLaw(clauseReader.text.compact());
        return accept(now.lawCount - 1);
    }

    public int orders() {
        latestStop = NONE;
        tokens.readTape(tape);
        tape.size = 0;
        boolean good = clauseReader.readText(tokens, true);
        latestFault = tokens.fault;
        if (!good) {
            return refuse(UNREADABLE);
        }
        aheadOfOrders.copyFrom(now);
        historyAheadOfOrders.copyFrom(history);
        orderWords[ORDER_DONE] = 0;
        orderWords[ORDER_LATEST] = NONE;
        Clauses text = clauseReader.text;
        setOrderWords(text.asksScans);
        for (int clause = 0; clause < text.count && latestStop == NONE; clause++) {
            int times = text.told(clause, Clauses.TIMES);
            for (int turn = 0; turn < times && latestStop == NONE; turn++) {
                if (!runOnce(text, clause)) {
                    latestStop = clause;
                }
            }
        }
        if (latestStop != NONE) {
            now.copyFrom(aheadOfOrders);
            history.copyFrom(historyAheadOfOrders);
            return refuse(NOT_NOW);
        }
        return accept(orderWords[ORDER_DONE]);
    }

    public int fault() {
        return latestFault;
    }

    public int stopped() {
        return latestStop;
    }

    public int force(int law) {
        if (law != NONE && now.lawAt(law) == null) {
            return refuse(NO_SUCH);
        }
        int was = now.force;
        now.force = law;
        return accept(was);
    }

    public int weigh(int syllable, int weight) {
        return settle(tryWeigh(syllable, weight));
    }

    public int ends(int syllable) {
        return settle(tryTurn(syllable, ENDS));
    }

    public int meets(int syllable) {
        return settle(tryTurn(syllable, MEETS));
    }

    public int pass() {
        return settle(tryPass());
    }

    public int undo() {
        if (history.size == 0) {
            return refuse(NOT_NOW);
        }
        int kind = history.latestKind();
        int syllable = history.latestSyllable();
        if (kind == WEIGHT) {
            now.setTold(syllable, WEIGHT, history.latestWeight());
        } else if (kind == PASSED) {
            now.setTerm(DAY, now.termOf(DAY) - 1);
        } else {
            now.turn(syllable, kind);
        }
        history.size--;
        return accept(kind);
    }

    public int steps(int metre) {
        Metre asked = now.metreAt(metre);
        return asked == null ? NONE : asked.steps;
    }

    public int best(int metre, int i) {
        if (i != NONE && !now.hasSyllable(i)) {
            return NONE;
        }
        long reading = bestReading(metre, now.force);
        if (reading >= Scansion.FAR) {
            return NONE;
        }
        return i == NONE ? Scansion.costIn(reading) : Scansion.wayIn(reading, i);
    }

    public int elisions(int metre) {
        return fewestBy(metre, Scansion.BY_ELISION);
    }

    public int mend(int metre) {
        return fewestBy(metre, Scansion.BY_MENDING);
    }

    public int reach(int metre) {
        Metre asked = now.metreAt(metre);
        if (asked == null) {
            return NONE;
        }
        scansion.lookAt(now, now.lawAt(now.force));
        return scansion.reachOf(asked);
    }

    public int length(int metre, int what) {
        Metre asked = now.metreAt(metre);
        if (asked == null || what < 0 || what > 1) {
            return NONE;
        }
        return what == 0 ? asked.shortest : asked.longest;
    }

    public int fits() {
        return fittingMetres(now);
    }

    public int heard(int p, int v) {
        if (p < 0 || p >= MOST_SYLLABLES || v < 0 || v >= WAYS) {
            return refuse(WRONG_NUMBER);
        }
        if (!now.addHeard(p, v)) {
            return refuse(NO_ROOM);
        }
        return accept(now.heardCount);
    }

    public int forget() {
        int was = now.heardCount;
        now.heardCount = 0;
        return was;
    }

    public int canBe() {
        scansion.lookAt(now, now.lawAt(now.force));
        return scansion.hear(now) ? takingMetres(now) : 0;
    }

    public int listen(int what) {
        int possible = canBe();
        if (what < 0 || what > 1 || possible == 0) {
            return NONE;
        }
        for (int k = 0; k < bestReadings.length; k++) {
            bestReadings[k] = (possible >> k & 1) == 1 ? bestReading(k, now.force) : Scansion.FAR;
        }
        int where = NONE;
        int left = NONE;
        for (int p = 0; p < now.size; p++) {
            int alike = mostAlike(p);
            if (where == NONE || alike < left) {
                where = p;
                left = alike;
            }
        }
        return what == 0 ? where : left;
    }

    public long few(int k, int n) {
        if (k < 1 || k > MOST_FEW || n < 0 || n > MOST_SLIPPING) {
            return NONE;
        }
        long slips = now.termOf(SLIPS);
        Arrays.fill(chances, 0);
        chances[0] = WHOLE_CHANCE;
        for (int done = 0; done < n; done++) {
            for (int j = chances.length - 1; j > 0; j--) {
                chances[j] = chances[j] * (10 - slips) / 10 + chances[j - 1] * slips / 10;
            }
            chances[0] = chances[0] * (10 - slips) / 10;
        }
        long together = 0;
        for (int j = 0; j < k && j < chances.length; j++) {
            together += chances[j];
        }
        return together;
    }

    public int compare(int law, int metre) {
        if (law != NONE && now.lawAt(law) == null) {
            return NONE;
        }
        long reading = bestReading(metre, law);
        return reading >= Scansion.FAR ? NONE : Scansion.costIn(reading);
    }

    public int weeks(int seed, int n) {
        if (seed < 0 || seed > MOST_SEED || n < 1 || n > MOST_WEEKS) {
            return refuse(WRONG_NUMBER);
        }
        if (now.size < 1) {
            return refuse(NOT_NOW);
        }
        State paper = afterWeeks;
        paper.copyFrom(now);
        int draw = seed;
        int took = 0;
        for (int day = 0; day < n && paper.termOf(DAY) < LAST_DAY; day++) {
            int first = nextDraw(draw);
            int second = nextDraw(first);
            draw = nextDraw(second);
            changeByDraws(paper, first % now.size, second % 3, draw % 4);
            took += Integer.bitCount(fittingMetres(paper));
            paper.setTerm(DAY, paper.termOf(DAY) + 1);
        }
        return accept(took);
    }

    public int drawn(int syllable, int what) {
        if (!afterWeeks.hasSyllable(syllable) || what < 0 || what >= FACTS) {
            return NONE;
        }
        return afterWeeks.told(syllable, what);
    }

    public int image(int k) {
        if (k < 0 || k >= images.length) {
            return refuse(WRONG_NUMBER);
        }
        State kept = images[k];
        if (kept == null) {
            kept = new State();
            images[k] = kept;
        }
        kept.copyFrom(now);
        return accept(0);
    }

    public int back(int k) {
        if (k < 0 || k >= images.length) {
            return refuse(WRONG_NUMBER);
        }
        State kept = images[k];
        if (kept == null) {
            return refuse(NO_SUCH);
        }
        now.copyFrom(kept);
        history.size = 0;
        return accept(0);
    }

    public int count(int what) {
        if (what >= 6 && what < 6 + refusals.length) {
            return refusals[what - 6];
        }
        switch (what) {
            case 0:
                return now.size;
            case 1:
                return now.metreCount;
            case 2:
                return now.heardCount;
            case 3:
                return now.lawCount;
            case 4:
                return history.size;
            case 5:
                return tape.size;
            case 11:
                return now.force;
            case 12:
                return now.termOf(DAY);
            case 13:
                return now.termOf(SLIPS);
            case 14:
                return now.termOf(MOOD);
            default:
                return NONE;
        }
    }

    public int status() {
        return latestRefusal;
    }

    private int refuse(int by) {
        latestRefusal = by;
        for (int k = 0; k < REFUSAL_CODES.length && k < refusals.length; k++) {
            if (REFUSAL_CODES[k] == by) {
                refusals[k]++;
            }
        }
        return by;
    }

    private int accept(int answer) {
        latestRefusal = 0;
        return answer;
    }

    private int settle(int answer) {
        return answer < 0 ? refuse(answer) : accept(answer);
    }

    /** METRES that TAKE what the scansion looks at, as bits. */
    private int takingMetres(State state) {
        int bits = 0;
        for (int k = 0; k < state.metreCount; k++) {
            Metre asked = state.metreAt(k);
            if (asked != null && scansion.takes(asked)) {
                bits |= 1 << k;
            }
        }
        return bits;
    }

    private int fittingMetres(State state) {
        scansion.lookAt(state, state.lawAt(state.force));
        return takingMetres(state);
    }

    private long bestReading(int metre, int law) {
        Metre asked = now.metreAt(metre);
        if (asked == null) {
            return Scansion.FAR;
        }
        scansion.lookAt(now, now.lawAt(law));
        return scansion.least(asked, Scansion.BY_COST);
    }

    private int fewestBy(int metre, int by) {
        Metre asked = now.metreAt(metre);
        if (asked == null) {
            return NONE;
        }
        scansion.lookAt(now, now.lawAt(now.force));
        long fewest = scansion.least(asked, by);
        return fewest >= Scansion.FAR ? NONE : (int) fewest;
    }

    /** How many of the best readings at most read a syllable alike. */
    private int mostAlike(int syllable) {
        int most = 0;
        for (int v = 0; v < WAYS; v++) {
            int alike = 0;
            for (int k = 0; k < bestReadings.length; k++) {
                if (bestReadings[k] < Scansion.FAR && Scansion.wayIn(bestReadings[k], syllable) == v) {
                    alike++;
                }
            }
            most = Math.max(most, alike);
        }
        return most;
    }

    private int tryWeigh(int syllable, int weight) {
        if (weight < 0 || weight > EITHER) {
            return WRONG_NUMBER;
        }
        if (!now.hasSyllable(syllable)) {
            return NO_SUCH;
        }
        int was = now.told(syllable, WEIGHT);
        if (was == weight) {
            return NOT_NOW;
        }
        now.setTold(syllable, WEIGHT, weight);
        history.add(WEIGHT, syllable, was);
        return was;
    }

    private int tryTurn(int syllable, int kind) {
        if (!now.hasSyllable(syllable)) {
            return NO_SUCH;
        }
        history.add(kind, syllable, 0);
        return now.turn(syllable, kind);
    }

    private int tryPass() {
        int day = now.termOf(DAY);
        if (day >= LAST_DAY) {
            return NOT_NOW;
        }
        int told = Integer.bitCount(fittingMetres(now));
        now.setTerm(DAY, day + 1);
        history.add(PASSED, 0, 0);
        return told;
    }

    /** One turn of a CLAUSE of ORDERS; false if it can't be. */
    private boolean runOnce(Clauses text, int clause) {
        int test = text.told(clause, Clauses.IF);
        if (test != NONE && reckoner.reckon(text.code, test, orderWords) != 1) {
            return true;
        }
        // a BROKEN sum is no syllable's number and no weight, so it is refused like any other such
        int first = reckoner.reckon(text.code, text.told(clause, Clauses.SUM), orderWords);
        int second = reckoner.reckon(text.code, text.told(clause, Clauses.TO), orderWords);
        int answer;
        switch (text.told(clause, Clauses.KIND)) {
            case Tokens.WEIGH:
                answer = tryWeigh(first, second);
                break;
            case Tokens.END:
                answer = tryTurn(first, ENDS);
                break;
            case Tokens.MEET:
                answer = tryTurn(first, MEETS);
                break;
            default:
                answer = tryPass();
                orderWords[ORDER_LATEST] = answer;
                break;
        }
        if (answer < 0) {
            return false;
        }
        orderWords[ORDER_DONE]++;
        setOrderWords(text.asksScans);
        return true;
    }

    /** What words tell of the line; it is asked anew only when something was run, as nothing else changes it. */
    private void setOrderWords(boolean withScans) {
        orderWords[ORDER_DAY] = now.termOf(DAY);
        orderWords[ORDER_COUNT] = now.size;
        for (int p = 0; p < MOST_SYLLABLES; p++) {
            orderWords[ORDER_WEIGHTS + p] = now.hasSyllable(p) ? now.told(p, WEIGHT) : NONE;
        }
        int taking = withScans ? fittingMetres(now) : 0;
        for (int k = 0; k < MOST_METRES; k++) {
            orderWords[ORDER_SCANS + k] = k < now.metreCount ? taking >> k & 1 : NONE;
        }
    }

    private static int nextDraw(int draw) {
        return (draw * 1103 + 12345) % 1000003;
    }

    private static void changeByDraws(State paper, int syllable, int weight, int kind) {
        if (kind < 2) {
            paper.setTold(syllable, WEIGHT, weight);
        } else {
            paper.turn(syllable, kind == 2 ? ENDS : MEETS);
        }
    }

    /** All that an IMAGE keeps. */
    private static final class State {
        private final int[] facts = new int[FACTS * MOST_SYLLABLES];
        private final int[] terms = {0, 1, 0};
        private final int[] heardAt = new int[MOST_HEARD];
        private final int[] heardAs = new int[MOST_HEARD];
        private final Metre[] metres = new Metre[MOST_METRES];
        private final Clauses[] laws = new Clauses[MOST_LAWS];
        int size;
        int heardCount;
        int metreCount;
        int lawCount;
        int force = NONE;

        void copyFrom(State other) {
            System.arraycopy(other.facts, 0, facts, 0, FACTS * MOST_SYLLABLES);
            System.arraycopy(other.terms, 0, terms, 0, HIGHEST_TERMS.length);
            System.arraycopy(other.heardAt, 0, heardAt, 0, MOST_HEARD);
            System.arraycopy(other.heardAs, 0, heardAs, 0, MOST_HEARD);
            for (int k = 0; k < MOST_METRES; k++) {
                metres[k] = other.metres[k];
            }
            for (int k = 0; k < MOST_LAWS; k++) {
                laws[k] = other.laws[k];
            }
            size = other.size;
            heardCount = other.heardCount;
            metreCount = other.metreCount;
            lawCount = other.lawCount;
            force = other.force;
        }

        static boolean isSyllable(int weight, int ends, int meets) {
            return weight >= 0 && weight <= EITHER && ends >= 0 && ends <= 1 && meets >= 0 && meets <= 1;
        }

        boolean addSyllable(int weight, int ends, int meets) {
            int from = FACTS * size;
            if (!isSyllable(weight, ends, meets) || from < 0 || from + MEETS >= facts.length) {
                return false;
            }
            facts[from + WEIGHT] = weight;
            facts[from + ENDS] = ends;
            facts[from + MEETS] = meets;
            size++;
            return true;
        }

        boolean hasSyllable(int syllable) {
            return syllable >= 0 && syllable < size;
        }

        int told(int syllable, int fact) {
            int at = FACTS * syllable + fact;
            return at >= 0 && at < facts.length ? facts[at] : NONE;
        }

        void setTold(int syllable, int fact, int value) {
            int at = FACTS * syllable + fact;
            if (at >= 0 && at < facts.length) {
                facts[at] = value;
            }
        }

        /** ENDS or MEETS becomes what it was not: what it is then. */
        int turn(int syllable, int fact) {
            int turned = 1 - told(syllable, fact);
            setTold(syllable, fact, turned);
            return turned;
        }

        int termOf(int what) {
            return what >= 0 && what < terms.length ? terms[what] : 0;
        }

        void setTerm(int what, int value) {
            if (what >= 0 && what < terms.length) {
                terms[what] = value;
            }
        }

        boolean addHeard(int p, int v) {
            if (heardCount < 0 || heardCount >= MOST_HEARD) {
                return false;
            }
            heardAt[heardCount] = p;
            heardAs[heardCount] = v;
            heardCount++;
            return true;
        }

        int heardPlace(int k) {
            return k >= 0 && k < heardAt.length ? heardAt[k] : NONE;
        }

        int heardWay(int k) {
            return k >= 0 && k < heardAs.length ? heardAs[k] : NONE;
        }

        void addMetre(Metre metre) {
            if (metreCount >= 0 && metreCount < metres.length) {
                metres[metreCount] = metre;
                metreCount++;
            }
        }

        void addLaw(Clauses law) {
            if (lawCount >= 0 && lawCount < laws.length) {
                laws[lawCount] = law;
                lawCount++;
            }
        }

        Metre metreAt(int k) {
            return k >= 0 && k < metreCount && k < metres.length ? metres[k] : null;
        }

        Clauses lawAt(int k) {
            return k >= 0 && k < lawCount && k < laws.length ? laws[k] : null;
        }
    }

    /** What can be undone, the latest last. */
    private static final class History {
        private final int[] kinds = new int[MOST_UNDONE];
        private final int[] syllables = new int[MOST_UNDONE];
        private final int[] weights = new int[MOST_UNDONE];
        int size;

        void copyFrom(History other) {
            System.arraycopy(other.kinds, 0, kinds, 0, MOST_UNDONE);
            System.arraycopy(other.syllables, 0, syllables, 0, MOST_UNDONE);
            System.arraycopy(other.weights, 0, weights, 0, MOST_UNDONE);
            size = other.size;
        }

        void add(int kind, int syllable, int weight) {
            if (size >= MOST_UNDONE) {
                dropOldest();
            }
            if (size >= 0 && size < MOST_UNDONE) {
                kinds[size] = kind;
                syllables[size] = syllable;
                weights[size] = weight;
                size++;
            }
        }

        private void dropOldest() {
            for (int k = 1; k < MOST_UNDONE; k++) {
                kinds[k - 1] = kinds[k];
                syllables[k - 1] = syllables[k];
                weights[k - 1] = weights[k];
            }
            size = MOST_UNDONE - 1;
        }

        int latestKind() {
            return latestIn(kinds);
        }

        int latestSyllable() {
            return latestIn(syllables);
        }

        int latestWeight() {
            return latestIn(weights);
        }

        private int latestIn(int[] column) {
            return size > 0 && size <= column.length ? column[size - 1] : NONE;
        }
    }

    private static final class Tape {
        private static final int FED_AT_ONCE = 20;

        private final int[] bytes = new int[MOST_BYTES];
        int size;

        boolean hasRoomForFive() {
            return size + FED_AT_ONCE <= MOST_BYTES;
        }

        void addFour(int number) {
            for (int shift = 24; shift >= 0; shift -= 8) {
                if (size >= 0 && size < bytes.length) {
                    bytes[size] = number >> shift & 255;
                    size++;
                }
            }
        }

        int byteAt(int place) {
            return place >= 0 && place < size && place < bytes.length ? bytes[place] : NONE;
        }
    }

    /** The TOKENS of a TEXT, how far they were read, and the FAULT. */
    private static final class Tokens {
        static final int WORD_LONG = 256;
        static final int WORD_CUT = 259;
        static final int OR = 260;
        static final int TIMES = 261;
        static final int COSTS = 262;
        static final int ALLOWS = 263;
        static final int BARS = 264;
        static final int IF = 265;
        static final int AND = 266;
        static final int NOT = 267;
        static final int FIRST_LAW_WORD = 268;
        static final int WEIGHT_WORD = 269;
        static final int COUNT = 273;
        static final int DAY_WORD = 274;
        static final int LAST_LAW_WORD = 275;
        static final int WEIGH = 276;
        static final int TO = 277;
        static final int END = 278;
        static final int MEET = 279;
        static final int PASS = 280;
        static final int DONE = 281;
        static final int LATEST = 282;
        static final int SCANS = 283;
        static final int OTHER_WORD = 284;
        static final int NUMBER = 300;
        static final int TEXT_END = 301;
        private static final int HIGHEST_NUMBER = 9999;

        /** In the order of the numbers above, a blank behind each. */
        private static final String WORDS = "long short any cut or times costs allows bars if and not place weight as ends meets count day mood weigh to end meet pass done latest scans ";

        private final int[] codes = new int[MOST_BYTES + 1];
        private final int[] values = new int[MOST_BYTES + 1];
        private final int[] places = new int[MOST_BYTES + 1];
        private int size;
        int at;
        int fault = NONE;

        void readTape(Tape tape) {
            size = 0;
            at = 0;
            fault = NONE;
            int to;
            for (int from = 0; from < tape.size; from = Math.max(to, from + 1)) {
                to = endOfToken(tape, from);
                int first = tape.byteAt(from);
                if (isLetter(first)) {
                    addToken(wordCode(tape, from, to), 0, from);
                } else if (isDigit(first)) {
                    addToken(NUMBER, numberAt(tape, from, to), from);
                } else if (first != ' ') {
                    addToken(first, 0, from);
                }
            }
            addToken(TEXT_END, 0, tape.size);
        }

        private void addToken(int code, int value, int place) {
            if (size >= 0 && size < codes.length) {
                codes[size] = code;
                values[size] = value;
                places[size] = place;
                size++;
            }
        }

        private static boolean isLetter(int sign) {
            return sign >= 'a' && sign <= 'z';
        }

        private static boolean isDigit(int sign) {
            return sign >= '0' && sign <= '9';
        }

        private static int endOfToken(Tape tape, int from) {
            boolean letters = isLetter(tape.byteAt(from));
            if (!letters && !isDigit(tape.byteAt(from))) {
                return from + 1;
            }
            int to = from + 1;
            while (to < tape.size && (letters ? isLetter(tape.byteAt(to)) : isDigit(tape.byteAt(to)))) {
                to++;
            }
            return to;
        }

        private static int wordCode(Tape tape, int from, int to) {
            int code = WORD_LONG;
            int next = from;
            boolean alike = true;
            for (int k = 0; k < WORDS.length(); k++) {
                char sign = WORDS.charAt(k);
                if (sign != ' ') {
                    alike = alike && next < to && tape.byteAt(next) == sign;
                    next++;
                } else if (alike && next == to) {
                    return code;
                } else {
                    code++;
                    next = from;
                    alike = true;
                }
            }
            return OTHER_WORD;
        }

        private static int numberAt(Tape tape, int from, int to) {
            int value = 0;
            for (int k = from; k < to; k++) {
                value = Math.min(HIGHEST_NUMBER, value * 10 + tape.byteAt(k) - '0');
            }
            return value;
        }

        int codeAt(int k) {
            return k >= 0 && k < size && k < codes.length ? codes[k] : TEXT_END;
        }

        /** The next TOKEN can't go on here; the first such one stays the FAULT. */
        void fail() {
            if (fault == NONE && at >= 0 && at < places.length) {
                fault = places[at];
            }
        }

        /** Goes past this TOKEN, if it is the next one and nothing failed ahead of it. */
        boolean skip(int code) {
            boolean fits = fault == NONE && at >= 0 && at < size && at < codes.length && codes[at] == code;
            if (fits && code != TEXT_END) {
                at++;
            }
            return fits;
        }

        void expect(int code) {
            if (!skip(code)) {
                fail();
            }
        }

        /** Goes past a NUMBER within bounds: that number, else NONE. */
        int takeNumber(int low, int high) {
            if (fault != NONE || at < 0 || at >= size || at >= codes.length || codes[at] != NUMBER) {
                return NONE;
            }
            int value = values[at];
            if (value < low || value > high) {
                return NONE;
            }
            at++;
            return value;
        }
    }

    /** A metre as nodes; each leads to nodes of lower numbers, the highest is where it begins. */
    private static final class Metre {
        static final int FINISH = 0;
        static final int LONG_STEP = 1;
        static final int SHORT_STEP = 2;
        static final int ANY_STEP = 3;
        static final int CUT_STEP = 4;
        static final int FORK = 5;

        private final int[] kinds;
        private final int[] nexts;
        private final int[] others;
        final int steps;
        final int shortest;
        final int longest;

        Metre(int[] kinds, int[] nexts, int[] others, int steps, int shortest, int longest) {
            this.kinds = kinds;
            this.nexts = nexts;
            this.others = others;
            this.steps = steps;
            this.shortest = shortest;
            this.longest = longest;
        }

        /** The node at which it begins. */
        int start() {
            return kinds.length - 1;
        }

        int kindAt(int node) {
            return node >= 0 && node < kinds.length ? kinds[node] : FINISH;
        }

        int nextAt(int node) {
            return node >= 0 && node < nexts.length ? nexts[node] : NONE;
        }

        int otherAt(int node) {
            return node >= 0 && node < others.length ? others[node] : NONE;
        }
    }

    /**
     * Reads METRES. What it reads is kept by TOKENS: a unit under its first one, a choice under the
     * first one of its first unit, the choices in a bracket under that bracket, those of the whole
     * text under the number WHOLE.
     */
    private static final class MetreReader {
        private static final int WHOLE = MOST_BYTES + 1;
        private static final int SLOTS = MOST_BYTES + 2;
        private static final int MOST_TIMES = 9;
        private static final int TOO_MANY = MOST_STEPS + 1;

        private final int[] unitTimes = new int[SLOTS];
        private final int[] unitBefore = new int[SLOTS];
        private final int[] lastUnit = new int[SLOTS];
        private final int[] choiceBefore = new int[SLOTS];
        private final int[] lastChoice = new int[SLOTS];
        private final int[] kinds = new int[MOST_NODES];
        private final int[] nexts = new int[MOST_NODES];
        private final int[] others = new int[MOST_NODES];
        private final int[] fewest = new int[MOST_NODES];
        private final int[] most = new int[MOST_NODES];
        private int size;

        /** The METRE that a TEXT tells, null with a FAULT. */
        Metre readText(Tokens tokens) {
            int steps = readMetre(tokens, WHOLE, 0);
            tokens.expect(Tokens.TEXT_END);
            if (steps > MOST_STEPS) {
                tokens.fail();
            }
            if (tokens.fault != NONE) {
                return null;
            }
            size = 0;
            int start = writeMetre(tokens, WHOLE, addNode(Metre.FINISH, NONE, NONE), 0);
            if (start != size - 1 || start < 0) {
                return null;
            }
            return new Metre(Arrays.copyOf(kinds, size), Arrays.copyOf(nexts, size),
                Arrays.copyOf(others, size), steps, fewest[start], most[start]);
        }

        private int readMetre(Tokens tokens, int owner, int depth) {
            int steps = 0;
            int before = NONE;
            boolean more = true;
            for (int k = 0; more && k < MOST_BYTES; k++) {
                int choice = tokens.at;
                steps = Math.min(TOO_MANY, steps + readChoice(tokens, choice, depth));
                put(choiceBefore, choice, before);
                before = choice;
                more = tokens.skip(Tokens.OR);
            }
            put(lastChoice, owner, before);
            return steps;
        }

        private int readChoice(Tokens tokens, int choice, int depth) {
            int steps = 0;
            int before = NONE;
            boolean more = true;
            for (int k = 0; more && k < MOST_BYTES; k++) {
                int unit = tokens.at;
                steps = Math.min(TOO_MANY, steps + readUnit(tokens, unit, depth));
                put(unitBefore, unit, before);
                before = unit;
                more = tokens.fault == NONE && beginsUnit(tokens.codeAt(tokens.at));
            }
            put(lastUnit, choice, before);
            return steps;
        }

        private int readUnit(Tokens tokens, int unit, int depth) {
            int steps = 1;
            if (tokens.codeAt(unit) == '(' && depth < MOST_BRACKETS) {
                tokens.expect('(');
                steps = readMetre(tokens, unit, depth + 1);
                tokens.expect(')');
            } else if (isStep(tokens.codeAt(unit))) {
                tokens.expect(tokens.codeAt(unit));
            } else {
                tokens.fail();
            }
            int times = tokens.skip(Tokens.TIMES) ? tokens.takeNumber(1, MOST_TIMES) : 1;
            if (times == NONE) {
                tokens.fail();
            }
            put(unitTimes, unit, times);
            return Math.min(TOO_MANY, steps * times);
        }

        private static boolean isStep(int code) {
            return code >= Tokens.WORD_LONG && code <= Tokens.WORD_CUT;
        }

        private static boolean beginsUnit(int code) {
            return code == '(' || isStep(code);
        }

        /** Writes the nodes of some choices, all ahead of a node: where they begin. */
        private int writeMetre(Tokens tokens, int owner, int next, int depth) {
            if (depth > MOST_BRACKETS) {
                return NONE;
            }
            int start = NONE;
            int choice = get(lastChoice, owner);
            for (int k = 0; choice >= 0 && k < MOST_BYTES; k++) {
                int one = writeChoice(tokens, choice, next, depth);
                start = start == NONE ? one : addNode(Metre.FORK, one, start);
                choice = get(choiceBefore, choice);
            }
            return start;
        }

        private int writeChoice(Tokens tokens, int choice, int next, int depth) {
            int start = next;
            int unit = get(lastUnit, choice);
            for (int k = 0; unit >= 0 && k < MOST_BYTES; k++) {
                int code = tokens.codeAt(unit);
                int times = get(unitTimes, unit);
                for (int turn = 0; turn < times; turn++) {
                    start = code == '(' ? writeMetre(tokens, unit, start, depth + 1)
                        : addNode(code - Tokens.WORD_LONG + Metre.LONG_STEP, start, NONE);
                }
                unit = get(unitBefore, unit);
            }
            return start;
        }

        private int addNode(int kind, int next, int other) {
            if (size < 0 || size >= MOST_NODES) {
                return NONE;
            }
            kinds[size] = kind;
            nexts[size] = next;
            others[size] = other;
            int read = kind == Metre.FINISH || kind == Metre.CUT_STEP || kind == Metre.FORK ? 0 : 1;
            int one = read + Math.max(0, get(fewest, next));
            int much = read + Math.max(0, get(most, next));
            fewest[size] = kind == Metre.FORK ? Math.min(one, get(fewest, other)) : one;
            most[size] = kind == Metre.FORK ? Math.max(much, get(most, other)) : much;
            size++;
            return size - 1;
        }

        private static int get(int[] slots, int at) {
            return at >= 0 && at < slots.length ? slots[at] : NONE;
        }

        private static void put(int[] slots, int at, int value) {
            if (at >= 0 && at < slots.length) {
                slots[at] = value;
            }
        }
    }

    /** A LAW or ORDERS: its clauses, and the code of their sums and tests. */
    private static final class Clauses {
        static final int KIND = 0;
        static final int TIMES = 1;
        static final int SUM = 2;
        static final int TO = 3;
        static final int IF = 4;
        private static final int FIELDS = 5;

        final int[] code;
        private final int[] fields;
        int count;
        int codeSize;
        boolean asksScans;

        Clauses(int[] code, int[] fields) {
            this.code = code;
            this.fields = fields;
        }

        static int[] fieldsFor(int clauses) {
            return new int[FIELDS * Math.max(0, clauses)];
        }

        int told(int clause, int field) {
            int at = FIELDS * clause + field;
            return clause >= 0 && at >= 0 && at < fields.length ? fields[at] : NONE;
        }

        void tell(int clause, int field, int value) {
            int at = FIELDS * clause + field;
            if (clause >= 0 && at >= 0 && at < fields.length) {
                fields[at] = value;
            }
        }

        /** Writes an instruction: where it stands. */
        int write(int op, int argument) {
            if (codeSize < 0 || codeSize >= code.length) {
                return NONE;
            }
            code[codeSize] = argument * Reckoner.OPS + op;
            codeSize++;
            return codeSize - 1;
        }

        /** The "or", "and" at this place goes on behind all that is written, if it is decided. */
        void aim(int at) {
            if (at >= 0 && at < codeSize && at < code.length) {
                code[at] += codeSize * Reckoner.OPS;
            }
        }

        /** One that is as long as it has to be, for keeping. */
        Clauses compact() {
            Clauses kept = new Clauses(Arrays.copyOf(code, Math.max(0, codeSize)),
                Arrays.copyOf(fields, FIELDS * Math.max(0, count)));
            kept.count = count;
            kept.codeSize = codeSize;
            return kept;
        }
    }

    /** Reads LAWS and ORDERS into one and the same row of clauses. */
    private static final class ClauseReader {
        private static final int MOST_CODE = MOST_BYTES + 3 * MOST_CLAUSES;
        private static final int MOST_TIMES = 20;
        private static final int HIGHEST_PART = 1000;

        final Clauses text = new Clauses(new int[MOST_CODE], Clauses.fieldsFor(MOST_CLAUSES));
        private boolean forOrders;
        private int parts;

        boolean readText(Tokens tokens, boolean asOrders) {
            text.count = 0;
            text.codeSize = 0;
            text.asksScans = false;
            forOrders = asOrders;
            parts = 0;
            boolean more = true;
            for (int k = 0; more && k < MOST_CLAUSES; k++) {
                readClause(tokens, k);
                text.count++;
                more = tokens.skip(';');
            }
            if (more) {
                tokens.fail();
            }
            tokens.expect(Tokens.TEXT_END);
            return tokens.fault == NONE;
        }

        private void readClause(Tokens tokens, int clause) {
            int kind = tokens.codeAt(tokens.at);
            boolean known = forOrders ? kind >= Tokens.WEIGH && kind <= Tokens.PASS && kind != Tokens.TO
                : kind >= Tokens.COSTS && kind <= Tokens.BARS;
            if (!known) {
                tokens.fail();
                return;
            }
            tokens.skip(kind);
            text.tell(clause, Clauses.KIND, kind);
            text.tell(clause, Clauses.SUM, NONE);
            text.tell(clause, Clauses.TO, NONE);
            text.tell(clause, Clauses.TIMES, 1);
            text.tell(clause, Clauses.IF, NONE);
            if (kind != Tokens.ALLOWS && kind != Tokens.BARS && kind != Tokens.PASS) {
                text.tell(clause, Clauses.SUM, text.codeSize);
                readSum(tokens, 0);
                text.write(Reckoner.STOP, 0);
            }
            if (kind == Tokens.WEIGH) {
                tokens.expect(Tokens.TO);
                text.tell(clause, Clauses.TO, text.codeSize);
                readSum(tokens, 0);
                text.write(Reckoner.STOP, 0);
            }
            if (forOrders && tokens.skip(Tokens.TIMES)) {
                readTimes(tokens, clause);
            }
            if (tokens.skip(Tokens.IF)) {
                text.tell(clause, Clauses.IF, text.codeSize);
                readTest(tokens, 0);
                text.write(Reckoner.STOP, 0);
            }
        }

        private void readTimes(Tokens tokens, int clause) {
            int times = tokens.takeNumber(1, MOST_TIMES);
            if (times == NONE) {
                tokens.fail();
            }
            text.tell(clause, Clauses.TIMES, times);
        }

        /** TEST with the BOTHs in it: an "and" is aimed behind the next PLAIN, an "or" behind the next BOTH. */
        private void readTest(Tokens tokens, int depth) {
            int or = NONE;
            int and = NONE;
            boolean more = true;
            for (int k = 0; more && k < MOST_BYTES; k++) {
                boolean turned = skipNots(tokens);
                if (depth < MOST_BRACKETS && tokens.skip('(')) {
                    readTest(tokens, depth + 1);
                    tokens.expect(')');
                } else {
                    readSum(tokens, depth);
                    int op = readComparison(tokens);
                    readSum(tokens, depth);
                    text.write(op, 0);
                }
                if (turned) {
                    text.write(Reckoner.NOT, 0);
                }
                text.aim(and);
                and = NONE;
                if (tokens.skip(Tokens.AND)) {
                    and = text.write(Reckoner.AND, 0);
                } else {
                    text.aim(or);
                    more = tokens.skip(Tokens.OR);
                    or = more ? text.write(Reckoner.OR, 0) : NONE;
                }
            }
        }

        /** Whether an odd number of "not" stands here: of an even one nothing is left. */
        private static boolean skipNots(Tokens tokens) {
            boolean turned = false;
            for (int k = 0; k < MOST_BYTES && tokens.skip(Tokens.NOT); k++) {
                turned = !turned;
            }
            return turned;
        }

        private static int readComparison(Tokens tokens) {
            if (tokens.skip('<')) {
                return Reckoner.LESS;
            }
            if (tokens.skip('>')) {
                return Reckoner.MORE;
            }
            tokens.expect('=');
            return Reckoner.SAME;
        }

        /** SUM with the TERMs in it: a waiting "*" is written behind its PART, a waiting "+" behind its TERM. */
        private void readSum(Tokens tokens, int depth) {
            int adding = NONE;
            int scaling = NONE;
            boolean more = true;
            for (int k = 0; more && k < MOST_BYTES; k++) {
                readPart(tokens, depth);
                if (scaling != NONE) {
                    text.write(scaling, 0);
                }
                int sign = tokens.codeAt(tokens.at);
                scaling = scalingOp(sign);
                if (scaling == NONE) {
                    if (adding != NONE) {
                        text.write(adding, 0);
                    }
                    adding = sign == '+' ? Reckoner.ADD : sign == '-' ? Reckoner.TAKE : NONE;
                }
                more = (scaling != NONE || adding != NONE) && tokens.skip(sign);
            }
        }

        private static int scalingOp(int sign) {
            switch (sign) {
                case '*':
                    return Reckoner.SCALE;
                case '/':
                    return Reckoner.SHARE;
                case '%':
                    return Reckoner.REST;
                default:
                    return NONE;
            }
        }

        private void readPart(Tokens tokens, int depth) {
            if (depth < MOST_BRACKETS && tokens.skip('[')) {
                readSum(tokens, depth + 1);
                tokens.expect(']');
                return;
            }
            if (parts >= MOST_PARTS) {
                tokens.fail();
                return;
            }
            parts++;
            int number = tokens.takeNumber(0, HIGHEST_PART);
            if (number != NONE) {
                text.write(Reckoner.NUMBER, number);
            } else if (forOrders) {
                readOrderWord(tokens);
            } else {
                readLawWord(tokens);
            }
        }

        private void readLawWord(Tokens tokens) {
            int word = tokens.codeAt(tokens.at);
            if (word < Tokens.FIRST_LAW_WORD || word > Tokens.LAST_LAW_WORD) {
                tokens.fail();
            } else if (tokens.skip(word)) {
                text.write(Reckoner.WORD, word - Tokens.FIRST_LAW_WORD);
            }
        }

        private void readOrderWord(Tokens tokens) {
            int value = NONE;
            if (tokens.skip(Tokens.DAY_WORD)) {
                value = ORDER_DAY;
            } else if (tokens.skip(Tokens.DONE)) {
                value = ORDER_DONE;
            } else if (tokens.skip(Tokens.LATEST)) {
                value = ORDER_LATEST;
            } else if (tokens.skip(Tokens.COUNT)) {
                value = ORDER_COUNT;
            } else if (tokens.skip(Tokens.WEIGHT_WORD)) {
                int which = tokens.takeNumber(0, MOST_SYLLABLES - 1);
                value = which == NONE ? NONE : ORDER_WEIGHTS + which;
            } else if (tokens.skip(Tokens.SCANS)) {
                int which = tokens.takeNumber(0, MOST_METRES - 1);
                value = which == NONE ? NONE : ORDER_SCANS + which;
                text.asksScans = true;
            }
            if (value == NONE) {
                tokens.fail();
            } else {
                text.write(Reckoner.WORD, value);
            }
        }
    }

    /** Reckons the code of a SUM or a TEST (1, 0), what words tell being given by their numbers. */
    private static final class Reckoner {
        static final int NUMBER = 0;
        static final int WORD = 1;
        static final int ADD = 2;
        static final int TAKE = 3;
        static final int SCALE = 4;
        static final int SHARE = 5;
        static final int REST = 6;
        static final int LESS = 7;
        static final int MORE = 8;
        static final int SAME = 9;
        static final int NOT = 10;
        static final int OR = 11;
        static final int AND = 12;
        static final int STOP = 13;
        static final int OPS = 16;
        static final int BROKEN = -2000000000;
        private static final long HIGHEST = 1000000000L;

        private final int[] stack = new int[MOST_PARTS + 1];

        /** The value of the code from a place on, or BROKEN (as it is without such a place). */
        int reckon(int[] code, int from, int[] words) {
            int height = 0;
            for (int k = from; k >= 0 && k < code.length; k++) {
                int op = code[k] % OPS;
                int argument = code[k] / OPS;
                if (op == NUMBER || op == WORD) {
                    if (height >= stack.length || argument < 0 || op == WORD && argument >= words.length) {
                        return BROKEN;
                    }
                    stack[height] = op == NUMBER ? argument : words[argument];
                    height++;
                } else if (height < 1) {
                    return BROKEN;
                } else if (op == STOP) {
                    return stack[height - 1];
                } else if (op == NOT) {
                    stack[height - 1] = 1 - stack[height - 1];
                } else if (op == OR || op == AND) {
                    boolean decided = stack[height - 1] == (op == OR ? 1 : 0);
                    height = decided ? height : height - 1;
                    k = decided ? Math.max(k, argument - 1) : k;
                } else {
                    int value = height < 2 ? BROKEN : combine(op, stack[height - 2], stack[height - 1]);
                    if (value == BROKEN) {
                        return BROKEN;
                    }
                    height--;
                    stack[height - 1] = value;
                }
            }
            return BROKEN;
        }

        private static int combine(int op, long left, long right) {
            if (right == 0 && (op == SHARE || op == REST)) {
                return BROKEN;
            }
            long value;
            switch (op) {
                case ADD:
                    value = left + right;
                    break;
                case TAKE:
                    value = left - right;
                    break;
                case SCALE:
                    value = left * right;
                    break;
                case SHARE:
                    value = left / right;
                    break;
                case REST:
                    value = left % right;
                    break;
                case LESS:
                    value = left < right ? 1 : 0;
                    break;
                case MORE:
                    value = left > right ? 1 : 0;
                    break;
                default:
                    value = left == right ? 1 : 0;
                    break;
            }
            return value < -HIGHEST || value > HIGHEST ? BROKEN : (int) value;
        }
    }

    /** A line as a law lets it be read, and how metres go along with it. */
    private static final class Scansion {
        static final int BY_COST = 0;
        static final int BY_ELISION = 1;
        static final int BY_MENDING = 2;
        /** More than any price of a reading; two of them together are still a long. */
        static final long FAR = 1L << 60;
        private static final int COST_SHIFT = 2 * MOST_SYLLABLES;
        private static final int HIGHEST_COST = 99;
        /** The words of laws, in the order of their TOKENS. */
        private static final int LAW_PLACE = 0;
        private static final int LAW_WEIGHT = 1;
        private static final int LAW_AS = 2;
        private static final int LAW_ENDS = 3;
        private static final int LAW_MEETS = 4;
        private static final int LAW_COUNT = 5;
        private static final int LAW_DAY = 6;
        private static final int LAW_MOOD = 7;
        private static final int LAW_WORDS = 8;

        private final Reckoner reckoner = new Reckoner();
        private final int[] lawWords = new int[LAW_WORDS];
        /** By way of reading: the syllables that can be read so, as bits. */
        private final int[] can = new int[WAYS];
        private final int[] costs = new int[WAYS * MOST_SYLLABLES];
        private final long[] prices = new long[WAYS * MOST_SYLLABLES];
        /** By node: the places in the line at which a metre can be there, as bits. */
        private final int[] flow = new int[MOST_NODES];
        private long[] here = new long[MOST_NODES];
        private long[] ahead = new long[MOST_NODES];
        private int size;
        private int cuts;
        private int reached;

        void lookAt(State line, Clauses law) {
            size = line.size;
            Arrays.fill(can, 0);
            cuts = 1;
            lawWords[LAW_COUNT] = size;
            lawWords[LAW_DAY] = line.termOf(DAY);
            lawWords[LAW_MOOD] = line.termOf(MOOD);
            for (int p = 0; p < size && p < MOST_SYLLABLES; p++) {
                cuts |= line.told(p, ENDS) << p + 1;
                lawWords[LAW_PLACE] = p;
                lawWords[LAW_WEIGHT] = line.told(p, WEIGHT);
                lawWords[LAW_ENDS] = line.told(p, ENDS);
                lawWords[LAW_MEETS] = line.told(p, MEETS);
                for (int v = 0; v < WAYS; v++) {
                    lawWords[LAW_AS] = v;
                    judge(law, p, v);
                }
            }
        }

        private void judge(Clauses law, int p, int v) {
            boolean natural = v != ELIDED && (lawWords[LAW_WEIGHT] == v || lawWords[LAW_WEIGHT] == EITHER);
            boolean able = v == ELIDED ? lawWords[LAW_MEETS] == 1 && p + 1 < size : natural;
            boolean barred = false;
            int cost = natural ? 0 : 1;
            int clauses = law == null ? 0 : law.count;
            for (int k = 0; k < clauses && law != null; k++) {
                int test = law.told(k, Clauses.IF);
                if (test != NONE && reckoner.reckon(law.code, test, lawWords) != 1) {
                    continue;
                }
                int kind = law.told(k, Clauses.KIND);
                if (kind == Tokens.BARS) {
                    barred = true;
                } else if (kind == Tokens.ALLOWS) {
                    able = able || v != ELIDED;
                } else {
                    int told = reckoner.reckon(law.code, law.told(k, Clauses.SUM), lawWords);
                    cost = told == Reckoner.BROKEN ? cost : Math.max(0, Math.min(HIGHEST_COST, told));
                }
            }
            int at = WAYS * p + v;
            if (at >= 0 && at < costs.length && v >= 0 && v < can.length) {
                costs[at] = cost;
                can[v] |= able && !barred ? 1 << p : 0;
            }
        }

        int canRead(int p, int v) {
            return v >= 0 && v < can.length ? can[v] >> p & 1 : 0;
        }

        int costOf(int p, int v) {
            int at = WAYS * p + v;
            return at >= 0 && at < costs.length ? costs[at] : 0;
        }

        /** From now on syllables can be read only as they were HEARD; false if that can't be so. */
        boolean hear(State line) {
            for (int k = 0; k < line.heardCount; k++) {
                int p = line.heardPlace(k);
                if (!line.hasSyllable(p)) {
                    return false;
                }
                for (int v = 0; v < can.length; v++) {
                    if (v != line.heardWay(k)) {
                        can[v] &= ~(1 << p);
                    }
                }
            }
            return true;
        }

        boolean takes(Metre metre) {
            flowThrough(metre);
            return (flow[0] >> size & 1) == 1;
        }

        int reachOf(Metre metre) {
            flowThrough(metre);
            int farthest = 0;
            for (int p = 1; p <= size; p++) {
                if ((reached >> p & 1) == 1) {
                    farthest = p;
                }
            }
            return farthest;
        }

        /** All places of the line at each node at once, from where the metre begins. */
        private void flowThrough(Metre metre) {
            Arrays.fill(flow, 0);
            reached = 0;
            int start = metre.start();
            spread(start, 1);
            for (int node = start; node >= 0 && node < flow.length; node--) {
                int places = withElided(flow[node]);
                flow[node] = places;
                reached |= places;
                int next = metre.nextAt(node);
                switch (metre.kindAt(node)) {
                    case Metre.LONG_STEP:
                        spread(next, (places & can[1]) << 1);
                        break;
                    case Metre.SHORT_STEP:
                        spread(next, (places & can[0]) << 1);
                        break;
                    case Metre.ANY_STEP:
                        spread(next, (places & (can[0] | can[1])) << 1);
                        break;
                    case Metre.CUT_STEP:
                        spread(next, places & cuts);
                        break;
                    case Metre.FORK:
                        spread(next, places);
                        spread(metre.otherAt(node), places);
                        break;
                    default:
                        break;
                }
            }
        }

        private void spread(int node, int places) {
            if (node >= 0 && node < flow.length) {
                flow[node] |= places;
            }
        }

        /**
         * These places and those behind them up to which all can be elided. The sum carries each place
         * through the ones that follow it without a gap, so that all of them differ from what they were.
         */
        private int withElided(int places) {
            int elided = can[ELIDED];
            return ((places & elided) + elided ^ elided) | places;
        }

        /** The lowest price of a reading that a metre TAKES; FAR without any. */
        long least(Metre metre, int by) {
            setPrices(by);
            for (int p = size; p >= 0; p--) {
                long[] rest = ahead;
                ahead = here;
                here = rest;
                for (int node = 0; node <= metre.start() && node < here.length; node++) {
                    here[node] = leastFrom(metre, node, p);
                }
            }
            return leastIn(here, metre.start());
        }

        private long leastFrom(Metre metre, int node, int p) {
            int next = metre.nextAt(node);
            long least = p < size ? priceOf(p, ELIDED) + leastIn(ahead, node) : FAR;
            switch (metre.kindAt(node)) {
                case Metre.LONG_STEP:
                    least = Math.min(least, priceOf(p, 1) + leastIn(ahead, next));
                    break;
                case Metre.SHORT_STEP:
                    least = Math.min(least, priceOf(p, 0) + leastIn(ahead, next));
                    break;
                case Metre.ANY_STEP:
                    least = Math.min(least, Math.min(priceOf(p, 0), priceOf(p, 1)) + leastIn(ahead, next));
                    break;
                case Metre.CUT_STEP:
                    least = (cuts >> p & 1) == 1 ? Math.min(least, leastIn(here, next)) : least;
                    break;
                case Metre.FORK:
                    least = Math.min(leastIn(here, next), leastIn(here, metre.otherAt(node)));
                    break;
                default:
                    least = p == size ? 0 : least;
                    break;
            }
            return Math.min(least, FAR);
        }

        private static long leastIn(long[] row, int node) {
            return node >= 0 && node < row.length ? row[node] : FAR;
        }

        private long priceOf(int p, int v) {
            int at = WAYS * p + v;
            return p >= 0 && p < size && at >= 0 && at < prices.length ? prices[at] : FAR;
        }

        private void setPrices(int by) {
            for (int at = 0; at < prices.length; at++) {
                int v = at % WAYS;
                boolean able = canRead(at / WAYS, v) == 1;
                if (by == BY_MENDING && v != ELIDED) {
                    prices[at] = able ? 0 : 1;
                } else if (!able) {
                    prices[at] = FAR;
                } else if (by == BY_COST) {
                    prices[at] = priceByCost(at / WAYS, v);
                } else {
                    prices[at] = by == BY_ELISION && v == ELIDED ? 1 : 0;
                }
            }
        }

        /**
         * The cost, and below it the way of reading in two bits of its own, the first syllable's highest:
         * so the lowest price of all is that of the first row among those that cost least.
         */
        private long priceByCost(int p, int v) {
            return ((long) costOf(p, v) << COST_SHIFT) + ((long) v << 2 * (MOST_SYLLABLES - 1 - p));
        }

        static int costIn(long reading) {
            return (int) (reading >> COST_SHIFT);
        }

        static int wayIn(long reading, int p) {
            return (int) (reading >> 2 * (MOST_SYLLABLES - 1 - p)) & 3;
        }
    }
}
