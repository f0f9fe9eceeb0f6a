import java.util.NoSuchElementException;

/** Loops with coins over two small numbers: rounds, plans, odds, guesses, runs. */
public final class CoinLoops {
    public static final int NONE = -1;

    private static final int NOT_TOLD = NONE - 1000000;
    private static final int WITHOUT_END = -2;
    private static final int TOO_MANY = -2;

    private static final int TAPE_MOST = 500;
    private static final int STATES_MOST = 10;
    private static final int CHOICES_MOST = 8;
    private static final int SLOTS = STATES_MOST * CHOICES_MOST;
    private static final int STATEMENTS_MOST = 24;
    private static final int STEPS_MOST = 2 * STATEMENTS_MOST;
    private static final int PICKS_MOST = 3;
    private static final int COINS_MOST = 2;
    private static final int DEPTH_MOST = 6;
    private static final int PAY_MOST = 20;
    private static final int NUMBER_MOST = 99;
    private static final int PIECES_MOST = 8;
    private static final int PLANS_MOST = 64;
    private static final int ROUNDS_TOLD = 20;
    private static final int ROUNDS_RUN = 200;
    private static final int QUARTERS = 4;
    private static final int CONDITIONS_MOST = 2 + STATES_MOST + SLOTS;

    /** All numbers 1 to 12 divide it, so that a GUESS times it is whole. */
    private static final int WHOLE = 27720;

    // Kinds of parts: a byte's own number for signs and strange bytes (never 0 on the TAPE).
    private static final int BROKEN = -1;
    private static final int TEXT_END = 0;
    private static final int NUMBER = 256;
    private static final int WORD_STRANGE = 257;
    private static final int WORD_X = 258;
    private static final int WORD_Y = 259;
    private static final int WORD_WHILE = 260;
    private static final int WORD_PAY = 261;
    private static final int WORD_COIN = 262;
    private static final int WORD_PICK = 263;
    private static final int WORD_IF = 264;
    private static final int WORD_OUT = 265;
    private static final int WORD_AND = 266;
    private static final int WORD_OR = 267;
    private static final int WORD_BY = 268;
    private static final int JUMP = 300;

    private static final int NO_LOOP = 0;
    private static final int NO_SUCH = 1;
    private static final int MANY_PLANS = 2;

    private static final int PAID = 0;
    private static final int ODDS = 2;

    private final Reader reader = new Reader();
    private final Walk walk = new Walk();
    private final Rounds rounds = new Rounds();
    private final Plans plans = new Plans(rounds);
    private final Horizon horizon = new Horizon(rounds);
    private final Corners corners = new Corners(rounds);
    private final int[] refused = new int[3];
    private LoopText program = new LoopText();
    private LoopText spareProgram = new LoopText();
    private GuessText told = new GuessText();
    private GuessText spareTold = new GuessText();
    private boolean hasLoop;
    private boolean hasGuess;
    private int boundPicks;
    private int boundTo;

    public CoinLoops() {
    }

    public int feed(int a, int b, int c, int d, int e) {
        int before = reader.size;
        if (reader.append(a) && reader.append(b) && reader.append(c)
                && reader.append(d) && reader.append(e)) {
            return reader.size;
        }
        reader.size = before;
        return NONE;
    }

    public boolean end(int n) {
        if (n < 0 || n > reader.size) {
            return false;
        }
        reader.size = n;
        return true;
    }

    public int fault(int what) {
        if (what == 0) {
            return spareProgram.readFrom(reader);
        }
        if (what == 1) {
            return spareTold.readFrom(reader);
        }
        return -2;
    }

    public int loop() {
        if (spareProgram.readFrom(reader) != NONE) {
            return NONE;
        }
        LoopText before = program;
        program = spareProgram;
        spareProgram = before;
        reader.size = 0;
        hasLoop = true;
        hasGuess = false;
        boundPicks = 0;
        boundTo = 0;
        renew();
        return rounds.states;
    }

    public int guess() {
        if (spareTold.readFrom(reader) != NONE) {
            return NONE;
        }
        GuessText before = told;
        told = spareTold;
        spareTold = before;
        reader.size = 0;
        hasGuess = true;
        return told.size;
    }

    public int rule(int what) {
        if (refuse(!hasLoop, NO_LOOP) || refuse(isOutside(what, 9), NO_SUCH)) {
            return NONE - 1;
        }
        switch (what) {
            case 0: return program.mostX;
            case 1: return program.mostY;
            case 2: return rounds.states;
            case 3: return rounds.inside;
            case 4: return program.statements;
            case 5: return program.picks;
            case 6: return rounds.plans;
            case 7: return hasGuess ? told.size : 0;
            default: return boundPicks;
        }
    }

    public int choices(int state) {
        if (refuse(!hasLoop, NO_LOOP) || refuse(isOutside(state, rounds.states), NO_SUCH)) {
            return NONE;
        }
        return rounds.sizes[state];
    }

    public int choice(int state, int choice, int what) throws NoSuchElementException {
        if (refuse(!hasLoop, NO_LOOP)
                || refuse(!rounds.isChoice(state, choice) || isOutside(what, 3), NO_SUCH)) {
            throw new NoSuchElementException();
        }
        int slot = state * CHOICES_MOST + choice;
        if (what == 0) {
            return rounds.picks[slot];
        }
        return what == 1 ? rounds.pays[slot] : rounds.outs[slot];
    }

    public int leads(int state, int choice, int to) {
        if (refuse(!hasLoop, NO_LOOP)
                || refuse(!rounds.isChoice(state, choice) || isOutside(to, rounds.states), NO_SUCH)) {
            return NONE;
        }
        return rounds.quarters(state * CHOICES_MOST + choice, to);
    }

    public long paid(int state, boolean most, int part) {
        if (refusePlanned(isOutside(state, rounds.states) || isOutside(part, 2))) {
            return NONE;
        }
        return plans.told(PAID + (most ? 1 : 0), state, part);
    }

    public long ends(int state, boolean most, int part) {
        if (refusePlanned(isOutside(state, rounds.states) || isOutside(part, 2))) {
            return NONE;
        }
        return plans.told(ODDS + (most ? 1 : 0), state, part);
    }

    public int unsure() {
        if (refusePlanned(false)) {
            return NONE;
        }
        for (int state = 0; state < rounds.states; state++) {
            if (!plans.isSure(ODDS, state)) {
                return state;
            }
        }
        return NONE;
    }

    public int plan(int state, boolean most, int of) {
        if (refusePlanned(isOutside(state, rounds.states) || isOutside(of, rounds.states))) {
            return NONE;
        }
        if (!rounds.isIn(of)) {
            return NONE;
        }
        return plans.choiceOf(plans.firstPlan(most, state), of);
    }

    public long within(int state, int n, boolean most, int what) {
        if (refuse(!hasLoop, NO_LOOP) || refuse(isOutside(state, rounds.states)
                || isOutside(n, ROUNDS_TOLD + 1) || isOutside(what, 2), NO_SUCH)) {
            return NONE;
        }
        return horizon.told(most, what, n, state);
    }

    public int half(int state) {
        if (refuse(!hasLoop, NO_LOOP) || refuse(isOutside(state, rounds.states), NO_SUCH)) {
            return NONE;
        }
        for (int n = 0; n <= ROUNDS_TOLD; n++) {
            if (2 * horizon.told(false, 0, n, state) >= 1L << (2 * n)) {
                return n;
            }
        }
        return NONE;
    }

    public long guessed(int state, int part) {
        if (refuse(!hasLoop || !hasGuess, NO_LOOP)
                || refuse(isOutside(state, rounds.states) || isOutside(part, 2), NO_SUCH)) {
            return NOT_TOLD;
        }
        return lowest(guessTimesWhole(state), WHOLE, part);
    }

    public long ahead(int state, int choice, int part) {
        if (refuse(!hasLoop || !hasGuess, NO_LOOP)
                || refuse(!rounds.isChoice(state, choice) || isOutside(part, 2), NO_SUCH)) {
            return NOT_TOLD;
        }
        return lowest(aheadTimesWhole(state, choice, true), (long) QUARTERS * WHOLE, part);
    }

    public int refutes(int rule) {
        if (refuse(!hasLoop || !hasGuess, NO_LOOP) || refuse(isOutside(rule, 5), NO_SUCH)) {
            return -2;
        }
        for (int state = 0; state < rounds.states; state++) {
            if (rounds.isIn(state) && isRefuted(state, rule)) {
                return state;
            }
        }
        return NONE;
    }

    public long best(int state, int what) {
        if (refuse(!hasLoop, NO_LOOP) || refuse(isOutside(state, rounds.states)
                || !rounds.isIn(state) || isOutside(what, 8), NO_SUCH)) {
            return NOT_TOLD;
        }
        corners.prepare();
        if (!corners.found) {
            return NOT_TOLD;
        }
        return corners.told(state, what);
    }

    public int run(int state, int picks, int seed, int rounds, int what) {
        if (refuse(!hasLoop, NO_LOOP) || refuse(isOutside(state, this.rounds.states)
                || isOutside(picks, 1 << PICKS_MOST) || isOutside(rounds, ROUNDS_RUN + 1)
                || isOutside(what, 5), NO_SUCH)) {
            return NONE;
        }
        walk.startDraws(this.rounds.xOf(state), this.rounds.yOf(state), seed);
        int gone = 0;
        for (int i = 0; i < rounds && !hasWalkEnded(); i++) {
            walk.goRound(program, picks);
            gone++;
        }
        switch (what) {
            case 0: return hasWalkEnded() ? 1 : 0;
            case 1: return gone;
            case 2: return walk.paid;
            case 3: return walk.out ? NONE : this.rounds.stateOf(walk.x, walk.y);
            default: return walk.thrown;
        }
    }

    public int bind(int pick, int to) {
        if (refuse(!hasLoop, NO_LOOP)
                || refuse(isOutside(pick, program.picks) || to < NONE || to > 1, NO_SUCH)) {
            return NONE;
        }
        int bit = 1 << pick;
        boundPicks = to == NONE ? boundPicks & ~bit : boundPicks | bit;
        boundTo = to == 1 ? boundTo | bit : boundTo & ~bit;
        renew();
        return rounds.plans;
    }

    public int price(int k, int n) {
        if (refuse(!hasLoop, NO_LOOP)
                || refuse(isOutside(k, program.pays) || isOutside(n, PAY_MOST + 1), NO_SUCH)) {
            return NONE;
        }
        int before = program.prices[k];
        program.prices[k] = n;
        renew();
        return before;
    }

    public int most(int what) {
        if (refuse(!hasLoop, NO_LOOP) || refuse(isOutside(what, 9), NO_SUCH)) {
            return NONE;
        }
        if (what >= 2 && what <= 5 && refusePlanned(false)) {
            return NONE;
        }
        switch (what) {
            case 0: return Integer.bitCount(rounds.inside);
            case 1: return rounds.withMostChoices();
            case 2: return plans.outermost(PAID + 1, true);
            case 3: return plans.outermost(ODDS, false);
            case 4: return plans.sureStates(ODDS);
            case 5: return plans.sureStates(ODDS + 1);
            case 6: return Integer.bitCount(rounds.reachedFrom(0));
            case 7: return program.pays;
            default: return program.coins;
        }
    }

    public int status(int what) {
        return isOutside(what, refused.length) ? NONE : refused[what];
    }

    public int count(int what) {
        return what == 0 ? reader.size : NONE;
    }

    private boolean refuse(boolean wrong, int why) {
        if (wrong && why >= 0 && why < refused.length) {
            refused[why]++;
        }
        return wrong;
    }

    /** Refuses a call that needs all PLANS, or makes their answers ready. */
    private boolean refusePlanned(boolean wrong) {
        if (refuse(!hasLoop, NO_LOOP) || refuse(wrong, NO_SUCH)
                || refuse(rounds.plans == TOO_MANY, MANY_PLANS)) {
            return true;
        }
        plans.prepare();
        return false;
    }

    /** What is kept of the LOOP's rounds no longer holds. */
    private void renew() {
        rounds.makeStates(program);
        rounds.makeChoices(program, walk, boundPicks, boundTo);
        plans.ready = false;
        horizon.forget();
        corners.ready = false;
    }

    private boolean hasWalkEnded() {
        return walk.out || !rounds.isIn(rounds.stateOf(walk.x, walk.y));
    }

    private long guessTimesWhole(int state) {
        if (!rounds.isIn(state)) {
            return 0;
        }
        return told.timesWhole(rounds.xOf(state), rounds.yOf(state));
    }

    /** Four times WHOLE times AHEAD, what is PAID counted or not. */
    private long aheadTimesWhole(int state, int choice, boolean withPaid) {
        int slot = state * CHOICES_MOST + choice;
        if (slot < 0 || slot >= SLOTS) {
            return 0;
        }
        long sum = withPaid ? (long) rounds.pays[slot] * WHOLE : 0;
        for (int to = 0; to < rounds.states; to++) {
            int quarters = rounds.quarters(slot, to);
            if (quarters > 0) {
                sum += quarters * guessTimesWhole(to);
            }
        }
        return sum;
    }

    private boolean isRefuted(int state, int rule) {
        if (state < 0 || state >= STATES_MOST) {
            return false;
        }
        long here = guessTimesWhole(state);
        if (here < 0 && rule != 3) {
            return true;
        }
        int against = 0;
        for (int choice = 0; choice < rounds.sizes[state]; choice++) {
            if (isChoiceAgainst(state, choice, rule, here)) {
                against++;
            }
        }
        return rule == 1 ? against == rounds.sizes[state] : against > 0;
    }

    private boolean isChoiceAgainst(int state, int choice, int rule, long here) {
        switch (rule) {
            case 0:
            case 1: return QUARTERS * here < aheadTimesWhole(state, choice, true);
            case 2: return QUARTERS * (here - WHOLE) < aheadTimesWhole(state, choice, false);
            case 3: return QUARTERS * here > aheadTimesWhole(state, choice, true);
            default: return !canFall(state, choice, here);
        }
    }

    private boolean canFall(int state, int choice, long here) {
        int slot = state * CHOICES_MOST + choice;
        if (slot < 0 || slot >= SLOTS) {
            return false;
        }
        if (rounds.outs[slot] > 0) {
            return true;
        }
        for (int to = 0; to < rounds.states; to++) {
            if (rounds.quarters(slot, to) > 0
                    && (!rounds.isIn(to) || guessTimesWhole(to) <= here - WHOLE)) {
                return true;
            }
        }
        return false;
    }

    private static boolean isOutside(int number, int size) {
        return number < 0 || number >= size;
    }

    private static long divisor(long a, long b) {
        long high = Math.abs(a);
        long low = Math.abs(b);
        for (int i = 0; i < 100 && low != 0; i++) {
            long rest = high % low;
            high = low;
            low = rest;
        }
        return high;
    }

    /** The upper (part 0) or lower number of a fraction in lowest terms. */
    private static long lowest(long upper, long lower, int part) {
        long shared = divisor(upper, lower);
        if (shared == 0) {
            return part == 0 ? upper : lower;
        }
        return part == 0 ? upper / shared : lower / shared;
    }

    /** The TAPE, and its parts one by one; the first that can't stand there is the FAULT. */
    private static final class Reader {
        private final int[] tape = new int[TAPE_MOST];
        int size;
        // the parts: what each is, where it begins, its number
        private final int[] kinds = new int[TAPE_MOST + 1];
        private final int[] starts = new int[TAPE_MOST + 1];
        private final int[] values = new int[TAPE_MOST + 1];
        private int parts;
        private int place;
        /** What the part is that comes next. */
        int kind;
        private int broken;
        // the SUM that was read last
        int byX;
        int byY;
        int plus;

        boolean append(int four) {
            for (int shift = 24; shift >= 0; shift -= 8) {
                int one = (four >>> shift) & 255;
                if (one != 0) {
                    if (isOutside(size, TAPE_MOST)) {
                        return false;
                    }
                    tape[size] = one;
                    size++;
                }
            }
            return true;
        }

        /** The TAPE is split into parts, the TEXT's end the last of them. */
        void open() {
            parts = 0;
            int at = 0;
            for (int i = 0; i < TAPE_MOST && at < size; i++) {
                if (byteAt(at) == ' ') {
                    at++;
                } else {
                    at = addPart(at);
                }
            }
            kinds[parts] = TEXT_END;
            starts[parts] = size;
            place = 0;
            kind = kinds[0];
            broken = NONE;
        }

        /** The TEXT must be over: where its FAULT is. */
        int close() {
            if (kind != TEXT_END) {
                fail();
            }
            return broken;
        }

        /** Nothing can stand behind a FAULT: what comes next stays BROKEN. */
        void fail() {
            if (kind != BROKEN) {
                broken = starts[place];
                kind = BROKEN;
            }
        }

        void next() {
            if (kind != BROKEN && place < parts) {
                place++;
                kind = kinds[place];
            }
        }

        boolean skip(int wanted) {
            if (kind != wanted) {
                return false;
            }
            next();
            return true;
        }

        void take(int wanted) {
            if (!skip(wanted)) {
                fail();
            }
        }

        int takeNumber(int low, int high) {
            int taken = values[place];
            if (kind != NUMBER || taken < low || taken > high) {
                fail();
                return low;
            }
            next();
            return taken;
        }

        void readSum() {
            byX = 0;
            byY = 0;
            plus = 0;
            int sign = 1;
            for (int i = 0; i < TAPE_MOST; i++) {
                readSumPart(sign);
                if (kind != '+' && kind != '-') {
                    return;
                }
                sign = kind == '+' ? 1 : -1;
                next();
            }
        }

        /** The rest of a COND whose first SUM has been read: a GUESS knows no sooner that it is one. */
        void readCondition(Conditions into) {
            boolean opens = true;
            for (int i = 0; i < TAPE_MOST; i++) {
                int leftX = byX;
                int leftY = byY;
                int leftPlus = plus;
                int relation = kind;
                if (!isAtRelation()) {
                    fail();
                    return;
                }
                next();
                readSum();
                into.add(leftX - byX, leftY - byY, leftPlus - plus, relation, opens);
                if (kind != WORD_AND && kind != WORD_OR) {
                    return;
                }
                opens = kind == WORD_OR;
                next();
                readSum();
            }
        }

        boolean isAtRelation() {
            return kind == '<' || kind == '=' || kind == '>';
        }

        private void readSumPart(int sign) {
            boolean isNumber = kind == NUMBER && values[place] <= NUMBER_MOST;
            int times = isNumber ? sign * values[place] : sign;
            if (isNumber) {
                next();
            }
            if (kind == WORD_X) {
                byX += times;
                next();
            } else if (kind == WORD_Y) {
                byY += times;
                next();
            } else if (isNumber) {
                plus += times;
            } else {
                fail();
            }
        }

        /** Where the part ends that begins there. */
        private int addPart(int start) {
            if (isOutside(parts, TAPE_MOST)) {
                return size;
            }
            int first = byteAt(start);
            int behind = start + 1;
            kinds[parts] = first;
            starts[parts] = start;
            if (isLetter(first)) {
                for (int i = 0; i < TAPE_MOST && isLetter(byteAt(behind)); i++) {
                    behind++;
                }
                kinds[parts] = wordKind(start, behind);
            } else if (isDigit(first)) {
                for (int i = 0; i < TAPE_MOST && isDigit(byteAt(behind)); i++) {
                    behind++;
                }
                kinds[parts] = NUMBER;
                values[parts] = numberAt(start, behind);
            }
            parts++;
            return behind;
        }

        /** Three digits are out of all bounds, however many noughts lead. */
        private int numberAt(int start, int behind) {
            int last = byteAt(behind - 1) - '0';
            if (behind - start == 1) {
                return last;
            }
            return behind - start == 2 ? (byteAt(start) - '0') * 10 + last : NUMBER_MOST + 1;
        }

        private int wordKind(int start, int behind) {
            if (spells(start, behind, "x")) {
                return WORD_X;
            }
            if (spells(start, behind, "y")) {
                return WORD_Y;
            }
            if (spells(start, behind, "while")) {
                return WORD_WHILE;
            }
            if (spells(start, behind, "pay")) {
                return WORD_PAY;
            }
            if (spells(start, behind, "coin")) {
                return WORD_COIN;
            }
            if (spells(start, behind, "pick")) {
                return WORD_PICK;
            }
            if (spells(start, behind, "if")) {
                return WORD_IF;
            }
            if (spells(start, behind, "out")) {
                return WORD_OUT;
            }
            if (spells(start, behind, "and")) {
                return WORD_AND;
            }
            if (spells(start, behind, "or")) {
                return WORD_OR;
            }
            return spells(start, behind, "by") ? WORD_BY : WORD_STRANGE;
        }

        private boolean spells(int start, int behind, String word) {
            if (behind - start != word.length()) {
                return false;
            }
            for (int i = 0; i < word.length(); i++) {
                if (byteAt(start + i) != word.charAt(i)) {
                    return false;
                }
            }
            return true;
        }

        private int byteAt(int index) {
            return index >= 0 && index < size && index < TAPE_MOST ? tape[index] : TEXT_END;
        }

        private static boolean isLetter(int one) {
            return one >= 'a' && one <= 'z';
        }

        private static boolean isDigit(int one) {
            return one >= '0' && one <= '9';
        }
    }

    /** ONES in a row (left less right, against 0); each tells whether it begins an ALL. */
    private static final class Conditions {
        private final int[] byX = new int[TAPE_MOST / 3];
        private final int[] byY = new int[TAPE_MOST / 3];
        private final int[] plus = new int[TAPE_MOST / 3];
        private final int[] relations = new int[TAPE_MOST / 3];
        private final boolean[] opens = new boolean[TAPE_MOST / 3];
        int size;

        void add(int times, int timesY, int rest, int relation, boolean begins) {
            if (size < 0 || size >= byX.length) {
                return;
            }
            byX[size] = times;
            byY[size] = timesY;
            plus[size] = rest;
            relations[size] = relation;
            opens[size] = begins;
            size++;
        }

        /** Whether the COND that stands from one place to another holds. */
        boolean hold(int from, int to, int x, int y) {
            boolean all = false;
            for (int i = Math.max(from, 0); i < to && i < byX.length; i++) {
                if (opens[i]) {
                    if (all) {
                        return true;
                    }
                    all = true;
                }
                int difference = byX[i] * x + byY[i] * y + plus[i];
                if (relations[i] == '<') {
                    all = all && difference < 0;
                } else {
                    all = all && (relations[i] == '=' ? difference == 0 : difference > 0);
                }
            }
            return all;
        }
    }

    /** A STATEMENT, or the jump over a second BODY. */
    private static final class Step {
        int kind;
        /** Which pick or pay of the TEXT it is. */
        int which;
        /** Where to go on for the second BODY, or behind a jump. */
        int target;
        int byX;
        int byY;
        int plus;
        int from;
        int to;
    }

    /** A LOOP as it was told: STATEMENTS in a row, with jumps ahead alone. */
    private static final class LoopText {
        final Conditions conditions = new Conditions();
        final Step[] steps = new Step[STEPS_MOST];
        final int[] prices = new int[STATEMENTS_MOST];
        int size;
        int mostX;
        int mostY;
        int whileTo;
        int statements;
        int picks;
        int coins;
        int pays;

        LoopText() {
            for (int i = 0; i < STEPS_MOST; i++) {
                steps[i] = new Step();
            }
        }

        /** Where the FAULT is; NONE if the whole TEXT has been read. */
        int readFrom(Reader in) {
            clear();
            in.open();
            in.take(WORD_X);
            mostX = in.takeNumber(0, STATES_MOST - 1);
            in.take(';');
            if (in.skip(WORD_Y)) {
                mostY = in.takeNumber(0, STATES_MOST / (mostX + 1) - 1);
                in.take(';');
            }
            in.take(WORD_WHILE);
            in.readSum();
            in.readCondition(conditions);
            whileTo = conditions.size;
            readBlock(in, 1, 0);
            return in.close();
        }

        private void clear() {
            conditions.size = 0;
            size = 0;
            mostX = 0;
            mostY = 0;
            whileTo = 0;
            statements = 0;
            picks = 0;
            coins = 0;
            pays = 0;
        }

        /** From coins that were thrown ahead of it to those behind it, at most. */
        private int readBlock(Reader in, int depth, int coinsAhead) {
            if (in.kind != '{' || depth > DEPTH_MOST) {
                in.fail();
                return coinsAhead;
            }
            in.next();
            int thrown = coinsAhead;
            boolean more = in.kind != '}';
            for (int i = 0; i <= STATEMENTS_MOST && more; i++) {
                thrown = readStatement(in, depth, thrown);
                more = in.skip(';');
            }
            in.take('}');
            return thrown;
        }

        private int readStatement(Reader in, int depth, int coinsAhead) {
            int kind = in.kind;
            if (!canBegin(kind, coinsAhead)) {
                in.fail();
                return coinsAhead;
            }
            statements++;
            Step step = add(kind);
            in.next();
            switch (kind) {
                case WORD_X:
                case WORD_Y:
                    readSetting(in, step);
                    return coinsAhead;
                case WORD_PAY:
                    readPay(in, step);
                    return coinsAhead;
                case WORD_COIN:
                    coins++;
                    return readWays(in, step, depth, coinsAhead + 1);
                case WORD_PICK:
                    step.which = picks;
                    picks++;
                    return readWays(in, step, depth, coinsAhead);
                case WORD_IF:
                    step.from = conditions.size;
                    in.readSum();
                    in.readCondition(conditions);
                    step.to = conditions.size;
                    return readWays(in, step, depth, coinsAhead);
                default:
                    return coinsAhead;
            }
        }

        private boolean canBegin(int kind, int coinsAhead) {
            if (statements >= STATEMENTS_MOST) {
                return false;
            }
            switch (kind) {
                case WORD_X:
                case WORD_Y:
                case WORD_PAY:
                case WORD_IF:
                case WORD_OUT:
                    return true;
                case WORD_COIN:
                    return coinsAhead < COINS_MOST;
                case WORD_PICK:
                    return picks < PICKS_MOST;
                default:
                    return false;
            }
        }

        private static void readSetting(Reader in, Step step) {
            in.take('=');
            in.readSum();
            step.byX = in.byX;
            step.byY = in.byY;
            step.plus = in.plus;
        }

        private void readPay(Reader in, Step step) {
            int amount = in.takeNumber(0, PAY_MOST);
            step.which = pays;
            if (!isOutside(pays, STATEMENTS_MOST)) {
                prices[pays] = amount;
                pays++;
            }
        }

        private int readWays(Reader in, Step fork, int depth, int coinsAhead) {
            int first = readBlock(in, depth + 1, coinsAhead);
            Step jump = add(JUMP);
            fork.target = size;
            int second = readBlock(in, depth + 1, coinsAhead);
            jump.target = size;
            return Math.max(first, second);
        }

        private Step add(int kind) {
            int place = Math.min(size, STEPS_MOST - 1);
            Step step = steps[place];
            step.kind = kind;
            size = place + 1;
            return step;
        }
    }

    /** A GUESS as it was told. */
    private static final class GuessText {
        private final Conditions conditions = new Conditions();
        private final int[] byX = new int[PIECES_MOST];
        private final int[] byY = new int[PIECES_MOST];
        private final int[] plus = new int[PIECES_MOST];
        private final int[] lower = new int[PIECES_MOST];
        private final int[] from = new int[PIECES_MOST];
        private final int[] to = new int[PIECES_MOST];
        int size;

        /** Where the FAULT is; NONE if the whole TEXT has been read. */
        int readFrom(Reader in) {
            conditions.size = 0;
            size = 0;
            in.open();
            boolean more = true;
            for (int i = 0; i <= PIECES_MOST && more; i++) {
                more = readPiece(in);
            }
            return in.close();
        }

        /** Whether another PIECE must follow. */
        private boolean readPiece(Reader in) {
            if (size >= PIECES_MOST) {
                in.fail();
                return false;
            }
            from[size] = conditions.size;
            in.readSum();
            boolean hasCondition = in.isAtRelation();
            if (hasCondition) {
                in.readCondition(conditions);
                in.take('?');
                in.readSum();
            }
            to[size] = conditions.size;
            byX[size] = in.byX;
            byY[size] = in.byY;
            plus[size] = in.plus;
            lower[size] = in.skip(WORD_BY) ? in.takeNumber(1, 12) : 1;
            size++;
            if (hasCondition) {
                in.take(';');
            }
            return hasCondition && in.kind != BROKEN;
        }

        long timesWhole(int x, int y) {
            for (int i = 0; i < size && i < PIECES_MOST; i++) {
                boolean isLast = i == size - 1;
                if (isLast || conditions.hold(from[i], to[i], x, y)) {
                    long sum = byX[i] * x + byY[i] * y + plus[i];
                    return lower[i] > 0 ? sum * (WHOLE / lower[i]) : 0;
                }
            }
            return 0;
        }
    }

    /** One who goes through ROUNDS, with coins by two bits or by draws from a seed. */
    private static final class Walk {
        int x;
        int y;
        int paid;
        int thrown;
        boolean out;
        private boolean draws;
        private int seed;

        void startDraws(int fromX, int fromY, int firstSeed) {
            start(fromX, fromY);
            draws = true;
            seed = firstSeed;
        }

        /** Of four alike quarters this one's coins: its lowest bit is the first coin's. */
        void startQuarter(int fromX, int fromY, int quarter) {
            start(fromX, fromY);
            draws = false;
            seed = quarter;
        }

        void goRound(LoopText loop, int picked) {
            int at = 0;
            for (int i = 0; i < STEPS_MOST && !out; i++) {
                if (at < 0 || at >= loop.size || at >= STEPS_MOST) {
                    return;
                }
                at = goStep(loop, at, picked);
            }
        }

        private void start(int fromX, int fromY) {
            x = fromX;
            y = fromY;
            paid = 0;
            thrown = 0;
            out = false;
        }

        private int goStep(LoopText loop, int at, int picked) {
            if (at < 0 || at >= STEPS_MOST) {
                return STEPS_MOST;
            }
            Step step = loop.steps[at];
            switch (step.kind) {
                case WORD_X:
                    x = held(step, loop.mostX);
                    return at + 1;
                case WORD_Y:
                    y = held(step, loop.mostY);
                    return at + 1;
                case WORD_PAY:
                    if (step.which >= 0 && step.which < loop.prices.length) {
                        paid += loop.prices[step.which];
                    }
                    return at + 1;
                case WORD_COIN:
                    return throwsHeads() ? at + 1 : step.target;
                case WORD_PICK:
                    return ((picked >> step.which) & 1) == 0 ? at + 1 : step.target;
                case WORD_IF:
                    return loop.conditions.hold(step.from, step.to, x, y) ? at + 1 : step.target;
                case WORD_OUT:
                    out = true;
                    return at + 1;
                default:
                    return step.target;
            }
        }

        private int held(Step step, int high) {
            return Math.max(0, Math.min(high, step.byX * x + step.byY * y + step.plus));
        }

        private boolean throwsHeads() {
            int bit = thrown;
            thrown++;
            if (!draws) {
                return ((seed >> bit) & 1) == 0;
            }
            seed = seed * 1103515245 + 12345;
            return ((seed >> 16) & 1) == 0;
        }
    }

    /** The STATES and their CHOICES; slots: a STATE times 8 and a CHOICE. */
    private static final class Rounds {
        final int[] sizes = new int[STATES_MOST];
        final int[] picks = new int[SLOTS];
        final int[] pays = new int[SLOTS];
        final int[] outs = new int[SLOTS];
        private final int[] ways = new int[SLOTS * STATES_MOST];
        int states;
        int inside;
        int mostX;
        int mostY;
        /** How many PLANS, or TOO_MANY. */
        int plans;

        void makeStates(LoopText loop) {
            mostX = loop.mostX;
            mostY = loop.mostY;
            states = Math.min((mostX + 1) * (mostY + 1), STATES_MOST);
            inside = 0;
            for (int state = 0; state < states; state++) {
                if (loop.conditions.hold(0, loop.whileTo, xOf(state), yOf(state))) {
                    inside |= 1 << state;
                }
            }
        }

        void makeChoices(LoopText loop, Walk walk, int boundPicks, int boundTo) {
            for (int state = 0; state < states; state++) {
                int size = 0;
                for (int picked = 0; picked < 1 << loop.picks && isIn(state); picked++) {
                    if ((picked & boundPicks) == boundTo && size < CHOICES_MOST) {
                        int slot = state * CHOICES_MOST + size;
                        fill(loop, walk, slot, picked);
                        size += isUnlike(slot) ? 1 : 0;
                    }
                }
                sizes[state] = size;
            }
            plans = countPlans();
        }

        int xOf(int state) {
            return mostX < 0 ? 0 : state % (mostX + 1);
        }

        int yOf(int state) {
            return mostX < 0 ? 0 : state / (mostX + 1);
        }

        int stateOf(int x, int y) {
            return x + y * (mostX + 1);
        }

        boolean isIn(int state) {
            return state >= 0 && state < states && ((inside >> state) & 1) != 0;
        }

        boolean isChoice(int state, int choice) {
            return state >= 0 && state < states && state < STATES_MOST
                    && choice >= 0 && choice < sizes[state];
        }

        int quarters(int slot, int to) {
            if (slot < 0 || slot >= SLOTS || to < 0 || to >= states) {
                return 0;
            }
            return ways[slot * STATES_MOST + to];
        }

        int withMostChoices() {
            int found = NONE;
            int size = 0;
            for (int state = 0; state < states; state++) {
                if (sizes[state] > size) {
                    found = state;
                    size = sizes[state];
                }
            }
            return found;
        }

        /** Bits of the STATES that can be come to from one, it too. */
        int reachedFrom(int first) {
            int reached = 1 << first;
            for (int pass = 0; pass < states; pass++) {
                for (int state = 0; state < states; state++) {
                    if (((reached >> state) & 1) != 0) {
                        reached |= nextStates(state);
                    }
                }
            }
            return reached;
        }

        private int nextStates(int state) {
            int next = 0;
            for (int choice = 0; isChoice(state, choice) && choice < CHOICES_MOST; choice++) {
                for (int to = 0; to < states; to++) {
                    if (quarters(state * CHOICES_MOST + choice, to) > 0) {
                        next |= 1 << to;
                    }
                }
            }
            return next;
        }

        private void fill(LoopText loop, Walk walk, int slot, int picked) {
            if (isOutside(slot, SLOTS)) {
                return;
            }
            int state = slot / CHOICES_MOST;
            picks[slot] = picked;
            pays[slot] = 0;
            outs[slot] = 0;
            for (int to = 0; to < STATES_MOST; to++) {
                ways[slot * STATES_MOST + to] = 0;
            }
            for (int quarter = 0; quarter < QUARTERS; quarter++) {
                walk.startQuarter(xOf(state), yOf(state), quarter);
                walk.goRound(loop, picked);
                pays[slot] += walk.paid;
                int to = stateOf(walk.x, walk.y);
                if (walk.out) {
                    outs[slot]++;
                } else if (!isOutside(to, STATES_MOST)) {
                    ways[slot * STATES_MOST + to]++;
                }
            }
        }

        /** Whether no CHOICE of the same STATE ahead of it tells the same ROUND. */
        private boolean isUnlike(int slot) {
            for (int other = slot - slot % CHOICES_MOST; other < slot; other++) {
                if (isAlike(other, slot)) {
                    return false;
                }
            }
            return true;
        }

        private boolean isAlike(int one, int other) {
            if (isOutside(one, SLOTS) || isOutside(other, SLOTS)
                    || pays[one] != pays[other] || outs[one] != outs[other]) {
                return false;
            }
            for (int to = 0; to < states; to++) {
                if (quarters(one, to) != quarters(other, to)) {
                    return false;
                }
            }
            return true;
        }

        private int countPlans() {
            int product = 1;
            for (int state = 0; state < states; state++) {
                if (isIn(state)) {
                    product *= sizes[state];
                }
                if (product > PLANS_MOST) {
                    return TOO_MANY;
                }
            }
            return product;
        }
    }

    /** LEAST and MOST of all PLANS: answers PAID, PAID + 1, ODDS, ODDS + 1 of each STATE. */
    private static final class Plans {
        private final Rounds rounds;
        boolean ready;
        private final long[] uppers = new long[4 * STATES_MOST];
        /** 0: without end. */
        private final long[] lowers = new long[4 * STATES_MOST];
        private final int[] firsts = new int[4 * STATES_MOST];
        // of the PLAN that is looked at
        private final int[] slots = new int[STATES_MOST];
        private final int[] reach = new int[STATES_MOST];
        private final int[] rowOf = new int[STATES_MOST];
        private final long[][] rows = new long[STATES_MOST][STATES_MOST + 2];
        private int leaving;
        private int staying;
        private int size;

        Plans(Rounds of) {
            rounds = of;
        }

        void prepare() {
            if (ready) {
                return;
            }
            ready = true;
            for (int plan = 0; plan < rounds.plans && plan < PLANS_MOST; plan++) {
                choosePlan(plan);
                findStaying();
                makeRows();
                solve();
                for (int state = 0; state < rounds.states; state++) {
                    note(plan, state);
                }
            }
        }

        long told(int which, int state, int part) {
            int place = which * STATES_MOST + state;
            if (isOutside(place, uppers.length)) {
                return NONE;
            }
            if (lowers[place] == 0) {
                return WITHOUT_END;
            }
            return part == 0 ? uppers[place] : lowers[place];
        }

        boolean isSure(int which, int state) {
            return told(which, state, 0) == told(which, state, 1);
        }

        int firstPlan(boolean most, int state) {
            int place = (most ? PAID + 1 : PAID) * STATES_MOST + state;
            return isOutside(place, firsts.length) ? 0 : firsts[place];
        }

        /** The last STATE's CHOICES change fastest. */
        int choiceOf(int plan, int state) {
            int rest = plan;
            for (int other = rounds.states - 1; other > state && other >= 0; other--) {
                if (rounds.sizes[other] > 0) {
                    rest /= rounds.sizes[other];
                }
            }
            if (isOutside(state, STATES_MOST) || rounds.sizes[state] <= 0) {
                return NONE;
            }
            return rest % rounds.sizes[state];
        }

        int sureStates(int which) {
            int sure = 0;
            for (int state = 0; state < rounds.states; state++) {
                if (isSure(which, state)) {
                    sure++;
                }
            }
            return sure;
        }

        /** Of the STATES that are IN the first whose answer is highest, or lowest. */
        int outermost(int which, boolean highest) {
            int found = NONE;
            for (int state = 0; state < rounds.states; state++) {
                if (rounds.isIn(state)) {
                    int place = which * STATES_MOST + state;
                    int other = which * STATES_MOST + found;
                    if (found == NONE || (highest ? isPlaceLess(other, place) : isPlaceLess(place, other))) {
                        found = state;
                    }
                }
            }
            return found;
        }

        private boolean isPlaceLess(int one, int other) {
            if (isOutside(one, uppers.length) || isOutside(other, uppers.length)) {
                return false;
            }
            return uppers[one] * lowers[other] < uppers[other] * lowers[one];
        }

        private void choosePlan(int plan) {
            leaving = 0;
            for (int state = 0; state < rounds.states; state++) {
                reach[state] = 1 << state;
                if (rounds.isIn(state)) {
                    slots[state] = state * CHOICES_MOST + Math.max(choiceOf(plan, state), 0);
                    noteWays(state, slots[state]);
                }
            }
            for (int by = 0; by < rounds.states; by++) {
                for (int state = 0; state < rounds.states; state++) {
                    if (((reach[state] >> by) & 1) != 0) {
                        reach[state] |= reach[by];
                    }
                }
            }
        }

        private void noteWays(int state, int slot) {
            if (isOutside(state, STATES_MOST) || isOutside(slot, SLOTS)) {
                return;
            }
            if (rounds.outs[slot] > 0) {
                leaving |= 1 << state;
            }
            for (int to = 0; to < rounds.states; to++) {
                if (rounds.quarters(slot, to) > 0) {
                    reach[state] |= 1 << to;
                }
            }
        }

        /** Bits of the STATES in those sets that are never left, nor ENDED. */
        private void findStaying() {
            staying = 0;
            for (int state = 0; state < rounds.states; state++) {
                if (rounds.isIn(state) && isStaying(state)) {
                    staying |= 1 << state;
                }
            }
        }

        private boolean isStaying(int state) {
            for (int to = 0; to < rounds.states; to++) {
                boolean reached = ((reach[state] >> to) & 1) != 0;
                boolean leaves = !rounds.isIn(to) || ((leaving >> to) & 1) != 0
                        || ((reach[to] >> state) & 1) == 0;
                if (reached && leaves) {
                    return false;
                }
            }
            return true;
        }

        /** Four times: a STATE less those it leads to is what is PAID, or what ENDS. */
        private void makeRows() {
            size = 0;
            for (int state = 0; state < rounds.states; state++) {
                boolean passing = rounds.isIn(state) && ((staying >> state) & 1) == 0;
                rowOf[state] = passing ? size : NONE;
                if (passing) {
                    size++;
                }
            }
            for (int state = 0; state < rounds.states; state++) {
                if (!isOutside(rowOf[state], STATES_MOST)) {
                    makeRow(rows[rowOf[state]], rowOf[state], slots[state]);
                }
            }
        }

        private void makeRow(long[] row, int own, int slot) {
            if (isOutside(slot, SLOTS) || isOutside(own, size) || isOutside(size + 1, row.length)) {
                return;
            }
            for (int i = 0; i < row.length; i++) {
                row[i] = 0;
            }
            row[own] = QUARTERS;
            row[size] = rounds.pays[slot];
            row[size + 1] = rounds.outs[slot];
            for (int to = 0; to < rounds.states; to++) {
                int quarters = rounds.quarters(slot, to);
                if (!rounds.isIn(to)) {
                    row[size + 1] += quarters;
                } else if (!isOutside(rowOf[to], size)) {
                    row[rowOf[to]] -= quarters;
                }
            }
        }

        /**
         * Whole numbers alone: each division by the pivot before goes up. No pivot is 0, as
         * each STATE of the rows can be left for good; all products stay below 2 to the 55.
         */
        private void solve() {
            long before = 1;
            for (int k = 0; k < size && k < STATES_MOST; k++) {
                long pivot = rows[k][k];
                for (int i = 0; i < size && i < STATES_MOST; i++) {
                    if (i != k && before != 0) {
                        clearRow(rows[i], rows[k], k, before);
                    }
                }
                before = pivot;
            }
        }

        private void clearRow(long[] row, long[] by, int k, long before) {
            if (isOutside(k, row.length) || isOutside(k, by.length) || before == 0) {
                return;
            }
            long pivot = by[k];
            long times = row[k];
            for (int j = 0; j < size + 2 && j < row.length && j < by.length; j++) {
                row[j] = (pivot * row[j] - times * by[j]) / before;
            }
        }

        private void note(int plan, int state) {
            if (isOutside(state, STATES_MOST)) {
                return;
            }
            int row = rowOf[state];
            long paid = 0;
            long odds = rounds.isIn(state) ? 0 : 1;
            long lower = 1;
            if (!isOutside(row, STATES_MOST) && !isOutside(size + 1, rows[row].length)) {
                paid = rows[row][size];
                odds = rows[row][size + 1];
                lower = rows[row][row];
            }
            boolean endless = isEndless(state);
            noteAnswer(PAID, plan, state, endless ? 1 : paid, endless ? 0 : lower);
            noteAnswer(ODDS, plan, state, odds, lower);
        }

        private boolean isEndless(int state) {
            int stays = isOutside(state, STATES_MOST) ? 0 : reach[state] & staying;
            for (int to = 0; to < rounds.states; to++) {
                if (((stays >> to) & 1) != 0 && rounds.pays[slots[to]] > 0) {
                    return true;
                }
            }
            return false;
        }

        private void noteAnswer(int which, int plan, int state, long upper, long lower) {
            int least = which * STATES_MOST + state;
            int greatest = least + STATES_MOST;
            if (least < 0 || greatest >= uppers.length) {
                return;
            }
            long shared = divisor(upper, lower);
            long up = shared == 0 ? upper : upper / shared;
            long low = shared == 0 ? lower : lower / shared;
            if (plan == 0 || up * lowers[least] < uppers[least] * low) {
                keep(least, plan, up, low);
            }
            if (plan == 0 || uppers[greatest] * low < up * lowers[greatest]) {
                keep(greatest, plan, up, low);
            }
        }

        private void keep(int place, int plan, long upper, long lower) {
            if (isOutside(place, uppers.length)) {
                return;
            }
            uppers[place] = upper;
            lowers[place] = lower;
            firsts[place] = plan;
        }
    }

    /** WITHIN so many ROUNDS: rows of all STATES, made as far as they are asked for. */
    private static final class Horizon {
        private final Rounds rounds;
        private final long[][] tables = new long[4][(ROUNDS_TOLD + 1) * STATES_MOST];
        private final int[] made = new int[4];

        Horizon(Rounds of) {
            rounds = of;
        }

        void forget() {
            for (int i = 0; i < made.length; i++) {
                made[i] = 0;
            }
        }

        long told(boolean most, int what, int n, int state) {
            int which = (most ? 2 : 0) + what;
            int place = n * STATES_MOST + state;
            if (isOutside(which, made.length) || isOutside(n, ROUNDS_TOLD + 1)
                    || isOutside(place, tables[which].length)) {
                return NONE;
            }
            for (int row = made[which]; row <= n; row++) {
                for (int from = 0; from < rounds.states; from++) {
                    tables[which][row * STATES_MOST + from] = value(which, row, from);
                }
                made[which] = row + 1;
            }
            return tables[which][place];
        }

        private long value(int which, int n, int state) {
            boolean odds = (which & 1) == 0;
            if (!rounds.isIn(state)) {
                return odds ? 1L << (2 * n) : 0;
            }
            long found = 0;
            for (int choice = 0; n > 0 && rounds.isChoice(state, choice) && choice < CHOICES_MOST; choice++) {
                long sum = valueBy(which, n, state * CHOICES_MOST + choice);
                boolean better = which >= 2 ? sum > found : sum < found;
                if (choice == 0 || better) {
                    found = sum;
                }
            }
            return found;
        }

        private long valueBy(int which, int n, int slot) {
            if (isOutside(slot, SLOTS) || n <= 0 || n > ROUNDS_TOLD || isOutside(which, tables.length)) {
                return 0;
            }
            boolean odds = (which & 1) == 0;
            long now = odds ? rounds.outs[slot] : rounds.pays[slot];
            long sum = now << (2 * (n - 1));
            for (int to = 0; to < rounds.states; to++) {
                sum += rounds.quarters(slot, to) * tables[which][(n - 1) * STATES_MOST + to];
            }
            return sum;
        }
    }

    /** CORNERS of the STRAIGHT guesses: the ends of all lines on which but one number is free. */
    private static final class Corners {
        private final Rounds rounds;
        boolean ready;
        boolean found;
        // by a, by b, by c, at least so much; the first ones (forced): just so much
        private final long[][] rows = new long[4][CONDITIONS_MOST];
        private int size;
        private int forced;
        // a line: (point and t times way) by scale, t from low to high
        private final long[] point = new long[3];
        private final long[] way = new long[3];
        private long scale;
        private boolean hasLow;
        private boolean hasHigh;
        private final long[] low = new long[2];
        private final long[] high = new long[2];
        // a, b, c and what is below all three
        private final long[] corner = new long[4];
        private final long[][] bests = new long[STATES_MOST][4];

        Corners(Rounds of) {
            rounds = of;
        }

        void prepare() {
            if (ready) {
                return;
            }
            ready = true;
            found = false;
            makeConditions();
            int firsts = forced == 0 ? size : 1;
            int seconds = forced == 2 ? 2 : size;
            for (int i = 0; i < firsts && i < CONDITIONS_MOST; i++) {
                for (int j = i + 1; j < seconds && j < CONDITIONS_MOST; j++) {
                    if (makeLine(i, j) && cutLine()) {
                        noteEnds();
                    }
                }
            }
        }

        long told(int state, int what) {
            if (isOutside(state, STATES_MOST)) {
                return NOT_TOLD;
            }
            long[] kept = bests[state];
            int number = what / 2 - 1;
            long upper = isOutside(number, 3) ? tells(state, kept) : kept[number];
            return lowest(upper, kept[3], what % 2);
        }

        private void makeConditions() {
            size = 0;
            if (rounds.mostX == 0) {
                addRow(1, 0, 0, 0);
            }
            if (rounds.mostY == 0) {
                addRow(0, 1, 0, 0);
            }
            forced = size;
            for (int state = 0; state < rounds.states; state++) {
                if (rounds.isIn(state)) {
                    addRow(rounds.xOf(state), rounds.yOf(state), 1, 0);
                }
                for (int choice = 0; rounds.isChoice(state, choice) && choice < CHOICES_MOST; choice++) {
                    addChoice(state, state * CHOICES_MOST + choice);
                }
            }
        }

        private void addChoice(int state, int slot) {
            if (isOutside(slot, SLOTS)) {
                return;
            }
            int byA = QUARTERS * rounds.xOf(state);
            int byB = QUARTERS * rounds.yOf(state);
            int byC = QUARTERS;
            for (int to = 0; to < rounds.states; to++) {
                if (rounds.isIn(to)) {
                    int quarters = rounds.quarters(slot, to);
                    byA -= quarters * rounds.xOf(to);
                    byB -= quarters * rounds.yOf(to);
                    byC -= quarters;
                }
            }
            addRow(byA, byB, byC, rounds.pays[slot]);
        }

        private void addRow(int byA, int byB, int byC, int least) {
            if (isOutside(size, CONDITIONS_MOST)) {
                return;
            }
            rows[0][size] = byA;
            rows[1][size] = byB;
            rows[2][size] = byC;
            rows[3][size] = least;
            size++;
        }

        /** The line on which two conditions are just met; none, if they depend on each other. */
        private boolean makeLine(int i, int j) {
            if (isOutside(i, CONDITIONS_MOST) || isOutside(j, CONDITIONS_MOST)) {
                return false;
            }
            scale = 0;
            for (int k = 0; k < 3; k++) {
                int m = (k + 1) % 3;
                int n = (k + 2) % 3;
                way[k] = rows[m][i] * rows[n][j] - rows[n][i] * rows[m][j];
                scale += way[k] * way[k];
            }
            for (int k = 0; k < 3; k++) {
                int m = (k + 1) % 3;
                int n = (k + 2) % 3;
                long acrossJ = rows[m][j] * way[n] - rows[n][j] * way[m];
                long acrossI = rows[n][i] * way[m] - rows[m][i] * way[n];
                point[k] = rows[3][i] * acrossJ + rows[3][j] * acrossI;
            }
            return scale != 0;
        }

        /** All other conditions cut the line; false: nothing is left. */
        private boolean cutLine() {
            hasLow = false;
            hasHigh = false;
            for (int row = forced; row < size && row < CONDITIONS_MOST; row++) {
                long slope = 0;
                long missing = rows[3][row] * scale;
                for (int k = 0; k < 3; k++) {
                    slope += rows[k][row] * way[k];
                    missing -= rows[k][row] * point[k];
                }
                if (slope == 0 && missing > 0) {
                    return false;
                }
                if (slope > 0) {
                    raiseLow(missing, slope);
                } else if (slope < 0) {
                    sinkHigh(-missing, -slope);
                }
                if (hasLow && hasHigh && low[0] * high[1] > high[0] * low[1]) {
                    return false;
                }
            }
            return true;
        }

        private void raiseLow(long upper, long lower) {
            if (!hasLow || upper * low[1] > low[0] * lower) {
                hasLow = true;
                low[0] = upper;
                low[1] = lower;
            }
        }

        private void sinkHigh(long upper, long lower) {
            if (!hasHigh || upper * high[1] < high[0] * lower) {
                hasHigh = true;
                high[0] = upper;
                high[1] = lower;
            }
        }

        private void noteEnds() {
            if (hasLow) {
                noteCorner(low[0], low[1]);
            }
            if (hasHigh) {
                noteCorner(high[0], high[1]);
            }
        }

        private void noteCorner(long upper, long lower) {
            corner[3] = scale * lower;
            long shared = corner[3];
            for (int k = 0; k < 3; k++) {
                corner[k] = point[k] * lower + upper * way[k];
                shared = divisor(shared, corner[k]);
            }
            for (int k = 0; k < 4 && shared != 0; k++) {
                corner[k] /= shared;
            }
            for (int state = 0; state < rounds.states; state++) {
                if (rounds.isIn(state) && (!found || isBetter(state, bests[state]))) {
                    System.arraycopy(corner, 0, bests[state], 0, 4);
                }
            }
            found = true;
        }

        private boolean isBetter(int state, long[] kept) {
            if (kept.length < 4) {
                return false;
            }
            int order = Long.compare(tells(state, corner) * kept[3], tells(state, kept) * corner[3]);
            for (int k = 0; k < 2 && order == 0; k++) {
                order = Long.compare(corner[k] * kept[3], kept[k] * corner[3]);
            }
            return order < 0;
        }

        private long tells(int state, long[] numbers) {
            if (numbers.length < 3) {
                return 0;
            }
            return numbers[0] * rounds.xOf(state) + numbers[1] * rounds.yOf(state) + numbers[2];
        }
    }
}
