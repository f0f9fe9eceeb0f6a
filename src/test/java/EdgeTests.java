import java.util.NoSuchElementException;

/**
 * Each sentence of the document that names a bound, or a call that is refused, has a test of its
 * own here, under that sentence: just within the bound, just beyond it, far beyond it.
 */
public final class EdgeTests {
    private static final int NOT_TOLD = -1000001;
    private static final int THROWS = -99;
    private static final int UNCOUNTED = -1;
    private static final String WALK = "x 2;while x>0{pick{pay 2;x=x-1}{pay 1;coin{x=x-1}{}}}";
    private static final String MANY = "x 6;while 0=0{pick{pay 1}{pay 2}}";
    private static final String TRAP = "x 1;while 0=0{pay 1}";

    private static int wrong = 0;
    private static String sentence = "";

    public static void main(String[] args) {
        textBounds();
        tapes();
        rounds();
        plansAndOdds();
        withinAndHalf();
        guesses();
        straightGuesses();
        runs();
        handsOn();
        mosts();
        refusals();
        System.out.println(wrong == 0 ? "all edges hold" : wrong + " answers are not as due");
        if (wrong != 0) {
            System.exit(1);
        }
    }

    private static void textBounds() {
        sizesOfXAndY();
        yWithoutItsOwnNumber();
        pays();
        numbersInSums();
        statements();
        picks();
        coinsOnAWay();
        depth();
        wordsAndBlanks();
        endsTooEarly();
        otherBytes();
        firstOfSeveralFaults();
        pieces();
        lowerNumbersOfPieces();
    }

    private static void tapes() {
        feedOrder();
        feedToTheBrim();
        refusedFeedLeavesTheTape();
        endBounds();
        faultLeavesAll();
        loopWithAFault();
        loopAnew();
        guessWithAFault();
        guessWithoutALoop();
        oneTextAfterAnother();
        longestTexts();
    }

    private static void rounds() {
        statesInNumbers();
        held();
        nothingBehindOut();
        allEightChoices();
        alikeChoices();
        boundChoices();
    }

    private static void plansAndOdds() {
        howManyPlans();
        lastOfAllPlans();
        firstStatesChangeSlowest();
        withoutEnd();
        lowestTerms();
        unsureStates();
        widestEquations();
    }

    private static void withinAndHalf() {
        withinBounds();
        withinTheMost();
        halfBounds();
    }

    private static void guesses() {
        pieceThatHolds();
        guessOfOut();
        refutedByAHair();
        refutedByTheLastChoice();
        refutedInTheLastState();
        farGuesses();
    }

    private static void straightGuesses() {
        numbersThatAreNought();
        noCorner();
        cornersThatTie();
        mostConditions();
    }

    private static void runs() {
        roundsOfARun();
        picksOfARun();
        seedsGoRound();
    }

    private static void handsOn() {
        bindBounds();
        priceBounds();
    }

    private static void mosts() {
        mostOfSeveral();
        mostReached();
        mostWithNoneIn();
    }

    private static void refusals() {
        refusedWithoutALoop();
        refusedBeyondBounds();
        acceptedAtBounds();
        refusedWithoutAGuess();
        refusedByTooManyPlans();
        refusedWhereItIsOut();
        countNowhere();
        statusBounds();
        countBounds();
    }

    // ---------------------------------------------------------------- helpers

    private static void due(String what, long got, long want) {
        if (got != want) {
            wrong++;
            System.out.println("[" + sentence + "] " + what + " answered " + got + ", due is " + want);
        }
    }

    private static void due(String what, boolean got, boolean want) {
        due(what, got ? 1 : 0, want ? 1 : 0);
    }

    /** What a method answers for its whats (or states) from 0 on. */
    private interface Numbered {
        long at(int n);
    }

    private static void row(String what, Numbered call, long... want) {
        for (int i = 0; i < want.length; i++) {
            due(what + " " + i, call.at(i), want[i]);
        }
    }

    private static int feed(CoinLoops c, String text) {
        int[] five = new int[5];
        for (int i = 0; i < 20; i++) {
            five[i / 4] = five[i / 4] << 8 | (i < text.length() ? text.charAt(i) : 0);
        }
        return c.feed(five[0], five[1], five[2], five[3], five[4]);
    }

    private static CoinLoops tape(CoinLoops c, String text) {
        c.end(0);
        for (int at = 0; at < text.length(); at += 20) {
            feed(c, text.substring(at, Math.min(at + 20, text.length())));
        }
        due("bytes of " + text, c.count(0), text.length());
        return c;
    }

    private static CoinLoops tape(String text) {
        return tape(new CoinLoops(), text);
    }

    private static CoinLoops withLoop(String text) {
        CoinLoops c = tape(text);
        due("loop of " + text, c.loop() > 0, true);
        return c;
    }

    private static CoinLoops withGuess(CoinLoops c, String text) {
        due("guess of " + text, tape(c, text).guess() > 0, true);
        return c;
    }

    /** A ^ in the text is where its FAULT is; without one it has none, and is taken. */
    private static void marked(int what, String text) {
        int at = text.indexOf('^');
        CoinLoops c = tape(text.replace("^", ""));
        due("fault(" + what + ") of " + text, c.fault(what), at);
        due("taking " + text, (what == 0 ? c.loop() : c.guess()) > 0, at < 0);
        due("bytes left of " + text, c.count(0), at < 0 ? 0 : text.length() - 1);
    }

    private static void loopText(String text) {
        marked(0, text);
    }

    private static void bodyText(String text) {
        marked(0, "x 2;while x>0{" + text + "}");
    }

    private static void guessText(String text) {
        marked(1, text);
    }

    private static int choice(CoinLoops c, int state, int choice, int what) {
        try {
            return c.choice(state, choice, what);
        } catch (NoSuchElementException e) {
            return THROWS;
        }
    }

    private static void fraction(String what, Numbered part, long up, long low) {
        due(what + " (upper)", part.at(0), up);
        due(what + " (lower)", part.at(1), low);
    }

    // ---------------------------------------------------------------- ==== 1. and the GUESS's TEXT

    private static void sizesOfXAndY() {
        sentence = "N 0 .. 9 each, (N of x, and 1) times (N of y, and 1) no more than 10";
        for (int x = 0; x <= 9; x++) {
            loopText("x " + x + ";while x>0{}");
            for (int y = 0; y <= 99; y++) {
                boolean fits = (x + 1) * (y + 1) <= 10;
                String text = "x " + x + ";y " + y + ";while x>0{}";
                CoinLoops c = tape(text);
                due("fault of " + text, c.fault(0), fits ? -1 : 6);
                due("loop of " + text, c.loop(), fits ? (x + 1) * (y + 1) : -1);
                if (fits) {
                    row("rule", c::rule, x, y, (x + 1) * (y + 1));
                }
            }
        }
        for (int x = 10; x <= 99; x++) {
            loopText("x ^" + x + ";while x>0{}");
        }
        sentence = "NUMBERS: of two digits at most";
        loopText("x 00;while x>0{}");
        loopText("x 09;y 00;while x>0{}");
        loopText("x ^000;while x>0{}");
        loopText("x ^009;while x>0{}");
        loopText("x 0;y 09;while x>0{}");
        loopText("x 0;y ^009;while x>0{}");
        loopText("x ^" + "0".repeat(400) + ";while x>0{}");
        loopText("x ^" + "4294967296" + ";while x>0{}");
        loopText("x ^" + "18446744073709551617" + ";while x>0{}");
    }

    private static void yWithoutItsOwnNumber() {
        sentence = "y 0 to its N (0 without)";
        CoinLoops c = withLoop("x 1;while y=0 and 9y<1{y=y+1;x=x+9y+1-y}");
        row("rule", c::rule, 1, 0, 2, 3);
        due("y stays 0", c.leads(0, 0, 1), 4);
        due("y stays 0", c.run(0, 0, 0, 9, 3), 1);
    }

    private static void pays() {
        sentence = "pay NUMBER (0 .. 20)";
        for (int n = 0; n <= 99; n++) {
            bodyText(n <= 20 ? "pay " + n : "pay ^" + n);
        }
        for (int n = 0; n <= 20; n++) {
            due("PAID by pay " + n, choice(withLoop("x 0;while 0=0{pay " + n + "}"), 0, 0, 1), 4 * n);
        }
        bodyText("pay 00");
        bodyText("pay 09");
        bodyText("pay ^000");
        bodyText("pay ^020");
        bodyText("pay ^256");
    }

    private static void numbersInSums() {
        sentence = "PART: NUMBER (0 .. 99) | x | y | NUMBER x | NUMBER y";
        for (int n = 0; n <= 99; n++) {
            CoinLoops c = withGuess(withLoop("x 1;y 1;while 0=0{}"), n + "+" + n + "x-" + n + "y");
            row("guessed by " + n, s -> c.guessed(s, 0), n, 2 * n, 0, n);
        }
        for (String many : new String[] {"100", "000", "099", "256", "4294967296"}) {
            guessText("^" + many);
            guessText("^" + many + "x");
            guessText("1+^" + many + "y");
            bodyText("x=^" + many);
            bodyText("if x>^" + many + "{}{}");
            loopText("x 2;while ^" + many + "x>0{}");
        }
        guessText("00x+09y-99");
    }

    private static void statements() {
        sentence = "At most 24 STATEMENTS; the first word of a STATEMENT that is a 25th";
        for (String one : new String[] {"x=0", "y=0", "pay 1", "coin{}{}", "pick{}{}", "if 0=0{}{}", "out"}) {
            bodyText("x=0;".repeat(23) + one);
            bodyText("x=0;".repeat(24) + "^" + one);
            bodyText("if x=1{" + "x=0;".repeat(21) + one + "}{x=0}");
            bodyText("if x=1{" + "x=0;".repeat(22) + one + "}{^x=0}");
            bodyText("if x=1{" + "x=0;".repeat(22) + one + "}{};^x=0");
            bodyText("if x=1{" + "x=0;".repeat(23) + "^" + one + "}{}");
            bodyText("if x=1{}{" + "x=0;".repeat(22) + one + "}");
            bodyText("if x=1{}{" + "x=0;".repeat(23) + "^" + one + "}");
        }
        bodyText("x=0;".repeat(24) + "^");
        bodyText("x=0;".repeat(24) + "^;x=0");
        bodyText("x=0;".repeat(24) + "^word");
        due("STATEMENTS", withLoop("x 2;while x>0{" + "x=0;".repeat(20) + "coin{pick{}{}}{if 0=0{}{out}}}").rule(4), 24);
        due("STATEMENTS", withLoop("x 2;while x>0{}").rule(4), 0);
        due("STATEMENTS", withLoop("x 2;while x>0{out}").rule(4), 1);
    }

    private static void picks() {
        sentence = "3 of them pick; a fourth pick";
        bodyText("pick{}{};pick{}{};pick{}{}");
        bodyText("pick{}{};pick{}{};pick{}{};^pick{}{}");
        bodyText("pick{pick{pick{}{}}{}}{}");
        bodyText("pick{pick{pick{^pick{}{}}{}}{}}{}");
        bodyText("pick{pick{pick{}{^pick{}{}}}{}}{}");
        bodyText("pick{}{pick{}{pick{}{}}};^pick{}{}");
        bodyText("if x=1{pick{}{};pick{}{}}{pick{}{}}");
        bodyText("if x=1{pick{}{};pick{}{}}{pick{}{};^pick{}{}}");
        bodyText("coin{pick{}{};pick{}{}}{pick{}{};^pick{}{}}");
        bodyText("out;pick{}{};pick{}{};pick{}{};^pick{}{}");
        due("no pick", withLoop("x 2;while x>0{}").rule(5), 0);
        due("picks", withLoop("x 2;while x>0{pick{}{pick{}{}};pick{}{}}").rule(5), 3);
    }

    private static void coinsOnAWay() {
        sentence = "2 coins on any way through the BODY; a third coin on some way";
        bodyText("coin{}{};coin{}{}");
        bodyText("coin{}{};coin{}{};^coin{}{}");
        bodyText("coin{coin{}{}}{coin{}{}}");
        bodyText("coin{coin{^coin{}{}}{}}{}");
        bodyText("coin{coin{}{^coin{}{}}}{}");
        bodyText("coin{}{coin{^coin{}{}}{}}");
        bodyText("coin{}{coin{}{}};if x=1{^coin{}{}}{}");
        sentence = "behind if, pick, coin the more of both ways counts";
        for (String fork : new String[] {"if x=1", "pick"}) {
            bodyText(fork + "{coin{}{}}{coin{}{}};coin{}{}");
            bodyText(fork + "{coin{}{}}{};coin{}{};^coin{}{}");
            bodyText(fork + "{}{coin{}{}};coin{}{};^coin{}{}");
            bodyText(fork + "{coin{}{};coin{}{}}{};^coin{}{}");
            bodyText(fork + "{}{coin{}{};coin{}{}};^coin{}{}");
            bodyText(fork + "{coin{}{};coin{}{}}{coin{}{};coin{}{}}");
            bodyText(fork + "{coin{}{};coin{}{}}{coin{}{};coin{}{};^coin{}{}}");
            bodyText("coin{}{};" + fork + "{coin{}{}}{coin{}{}};" + fork + "{}{^coin{}{}}");
        }
        bodyText("coin{coin{}{}}{};^coin{}{}");
        bodyText("coin{}{coin{}{}};^coin{}{}");
        bodyText("coin{}{};coin{}{};x=0;if x=1{pick{}{^coin{}{}}}{}");
        sentence = "whatever CONDS are";
        bodyText("if 0=1{coin{}{};coin{}{}}{};^coin{}{}");
        bodyText("if 0=0{}{coin{}{};coin{}{}};^coin{}{}");
        bodyText("if x=1{coin{}{};coin{}{}}{};if x=2{^coin{}{}}{}");
        due("coins of the TEXT", withLoop("x 2;while x>0{if x=1{coin{}{};coin{}{}}{coin{coin{}{}}{coin{}{}}}}").most(8), 5);
    }

    private static void depth() {
        sentence = "{ 6 deep at most (that behind while: 1); a { that is a seventh one deep";
        bodyText("if 0=0{".repeat(5) + "x=0" + "}{}".repeat(5));
        bodyText("if 0=0{".repeat(5) + "if 0=0^{}{}" + "}{}".repeat(5));
        bodyText("if 0=0{}{".repeat(5) + "x=0" + "}".repeat(5));
        bodyText("if 0=0{}{".repeat(5) + "if 0=0^{}{}" + "}".repeat(5));
        bodyText("pick{}{coin{}{if 0=0{coin{pick{x=0}{}}{}}{}}}");
        bodyText("pick{}{coin{}{if 0=0{coin{pick{if x=1^{}{}}{}}{}}{}}}");
        bodyText("if 0=0{if 0=0{if 0=0{if 0=0{pick{coin^{}{}}{}}{}}{}}{}}{}");
        bodyText("if 0=0{if 0=0{if 0=0{if 0=0{coin{pick^{}{}}{}}{}}{}}{}}{}");
        bodyText("if 0=0{".repeat(5) + "}{}".repeat(5) + ";" + "if 0=0{".repeat(5) + "}{}".repeat(5));
        bodyText("if 0=0{".repeat(5) + "}{if 0=0^{}{}}" + "}{}".repeat(4));
    }

    private static void wordsAndBlanks() {
        sentence = "Words: small letters as many as stand together; NUMBERS: digits likewise";
        loopText("x2;while2x>0{pay3;coin{x=1}{x=2}}");
        loopText("x 2;^whilex>0{}");
        loopText("^xy 2;while x>0{}");
        bodyText("^payx");
        bodyText("x=1^xy");
        bodyText("if x=1^andx=1{}{}");
        bodyText("if x=1or x=2and y=0{}{}");
        bodyText("^coincoin{}{}{}{}");
        bodyText("x=1 ^2");
        bodyText("^pa y 2");
        bodyText("x=^xx");
        bodyText("x=x ^x");
        loopText("^xz 2;while x>0{}");
        loopText("^xa 2;while x>0{}");
        loopText("^zx 2;while x>0{}");
        sentence = "ONE: SUM < SUM | SUM = SUM | SUM > SUM";
        loopText("x 2;while x^{}");
        loopText("x 2;while x>0 and y^{}");
        loopText("x 2;while x>0 or y ^or x>1{}");
        loopText("x 2;while x>0^>1{}");
        bodyText("if x^{}{}");
        guessText("x ^?3;4");
        guessText("x>0 and y^?3;4");
        sentence = "Blanks (32) may stand ahead of and behind words, NUMBERS, signs";
        loopText("   x   2   ;   y   1   ;   while   2   x   +   y   >   0   or   x   =   1   {   pay   3   ;   "
                + "if   x   <   y   {   }   {   out   }   }   ");
        guessText("   x   <   1   and   y   >   0   ?   3   -   2   x   by   2   ;   4   by   12   ");
        for (int other : new int[] {9, 10, 11, 12, 13, 160}) {
            loopText("x^" + (char) other + "2;while x>0{}");
        }
    }

    /** Whatever parts a TEXT has: cut behind one of them, it ends too early. */
    private static void cutEverywhere(int what, String blanked) {
        String[] parts = blanked.split(" ");
        for (int size = 0; size < parts.length; size++) {
            String text = String.join(" ", java.util.Arrays.copyOf(parts, size));
            due("fault of " + text, tape(text).fault(what), text.length());
            due("fault of " + text + " and blanks", tape(text + "   ").fault(what), text.length() + 3);
            due("taking " + text, what == 0 ? tape(text).loop() : tape(text).guess(), -1);
        }
        due("fault of " + blanked, tape(blanked).fault(what), -1);
    }

    private static void endsTooEarly() {
        sentence = "the length, if the TEXT ends too early";
        cutEverywhere(0, "x 2 ; y 1 ; while 2 x + y > 0 or x = 1 and y < 1 { pay 3 ; x = x - 1 ; y = 2 y ; "
                + "if x < y { out } { } ; coin { } { } ; pick { x = 1 } { pay 2 } }");
        cutEverywhere(0, "x 9 ; while x > 0 { }");
        for (int size = 0; size < 9; size++) {
            String text = "x<1?2;y>3".substring(0, size);
            boolean whole = size == 1 || size == 7;
            due("fault of " + text, tape(text).fault(1), whole ? -1 : size);
        }
        for (String text : new String[] {"", "x <", "x < 1", "x < 1 ?", "x < 1 ? 2", "x < 1 ? 2 ;", "x < 1 ? 2 by", "x < 1 and", "3 +", "3 by"}) {
            guessText(text + "^");
            guessText(text + "  ^");
        }
    }

    private static void otherBytes() {
        sentence = "FAULT: where the first part (a word, a NUMBER, a sign, another byte) begins that can't stand there";
        // ^ itself marks the place in these tests
        String known = "abcdefghijklmnopqrstuvwxyz0123456789 ^";
        due("fault of ^", tape("^").fault(0), 0);
        due("fault of 3^", tape("3^").fault(1), 1);
        for (int one = 1; one <= 255; one++) {
            if (known.indexOf((char) one) < 0) {
                String sign = "" + (char) one;
                loopText("^" + sign);
                guessText("^" + sign);
                loopText("x ^" + sign + "2;while x>0{}");
                loopText("x 2;while x>0{}^" + sign);
                guessText("3 by ^" + sign + "2");
                if (one != '}') {
                    bodyText("^" + sign);
                }
                if (one != ';' && one != '}') {
                    bodyText("out^" + sign);
                }
                if (one != '+' && one != '-') {
                    guessText(one == '<' || one == '=' || one == '>' ? "3 " + sign + "^" : "3 ^" + sign);
                }
            }
        }
        for (String word : new String[] {"x", "y", "while", "pay", "coin", "pick", "if", "out", "and", "or", "by", "a", "zz"}) {
            loopText(word.equals("x") ? "x^" : "^" + word);
            loopText("x ^" + word);
            loopText("x 2 ^" + word);
            loopText("x 2;while x>0{}^" + word);
            bodyText("out ^" + word);
            bodyText("pay ^" + word);
            bodyText("coin ^" + word + "{}{}");
            bodyText("pick{} ^" + word + "{}");
            guessText("3 by ^" + word);
            guessText("3 by 2 ^" + word);
        }
    }

    private static void firstOfSeveralFaults() {
        sentence = "FAULT: where the first part begins that can't stand there";
        loopText("x ^10;y 99;while {");
        loopText("x 4;y ^2;while x>100{pay 21}");
        loopText("x 4;y 1;while x>^100{pay 21}");
        bodyText("pay ^21;pay 22");
        bodyText("x=0;".repeat(20) + "pay ^21;x=0;x=0;x=0;x=0;x=0");
        bodyText("coin{}{};coin{}{};^coin{pay 21}{}");
        bodyText("if 0=0{if 0=0{if 0=0{if 0=0{if 0=0{if 0=^100{}{}}{}}{}}{}}{}}{}");
        guessText("x<1?^100;3 by 13");
    }

    private static void pieces() {
        sentence = "Eight PIECES at most; FAULT: a ninth at its first part";
        for (int more = 0; more <= 7; more++) {
            due("PIECES", tape("x=0?1;".repeat(more) + "2").guess(), more + 1);
        }
        guessText("x=0?1;".repeat(7) + "2");
        guessText("x=0?1;".repeat(8) + "^2");
        guessText("x=0?1;".repeat(8) + "^x=0?1;2");
        guessText("x=0?1;".repeat(8) + "   ^y=0?1");
        guessText("x=0?1;".repeat(8) + "^;");
        guessText("x=0?1;".repeat(8) + "^");
        guessText("x=0?1;".repeat(7) + "x=0?1^");
        guessText("x=0?1;".repeat(8) + "^" + "x=0?1;".repeat(20) + "2");
        sentence = "the last one without COND ?";
        guessText("2^;");
        guessText("2^;3");
        guessText("2 by 3^;3");
        guessText("x=0?1;2^;3");
        guessText("x=0?1;y=0?2^");
        guessText("x=0?y^=0;2");
        guessText("2^?3");
    }

    private static void lowerNumbersOfPieces() {
        sentence = "by NUMBER (1 .. 12; 1 without)";
        for (int n = 0; n <= 99; n++) {
            guessText(n >= 1 && n <= 12 ? "3 by " + n : "3 by ^" + n);
            guessText("x=0?3 by " + (n >= 1 && n <= 12 ? "" : "^") + n + ";2");
        }
        guessText("3 by 01");
        guessText("3 by ^00");
        guessText("3 by ^001");
        guessText("3 by ^012");
        CoinLoops c = withLoop("x 0;while 0=0{}");
        for (int n = 1; n <= 12; n++) {
            withGuess(c, "61 by " + n);
            fraction("61 by " + n, part -> c.guessed(0, part), 61, n);
        }
        withGuess(c, "61");
        fraction("61", part -> c.guessed(0, part), 61, 1);
    }

    // ---------------------------------------------------------------- promises 2 to 6

    private static void feedOrder() {
        sentence = "of each number the highest first; bytes of 0 are left out";
        CoinLoops c = new CoinLoops();
        due("noughts alone", c.feed(0, 0, 0, 0, 0), 0);
        due("one byte in each place", c.feed('x' << 24, '+' << 16, '1' << 8, '2', 0), 4);
        due("the last place", c.feed(0, 0, 0, 0, 'x'), 5);
        due("x+12x", c.fault(1), -1);
        c.guess();
        due("20 bytes", feed(c, "9x+8x+7x+6x+5x+4x+3x"), 20);
        due("the fifth number's last byte too", c.guess(), 1);
        tape(c, "x 1;while 0=0{}").loop();
        feed(c, "9x+8x+7x+6x+5x+4x+3x");
        c.guess();
        due("all of them", c.guessed(1, 0), 42);
        sentence = "Twenty bytes more come to the TAPE";
        due("bytes above 127", c.feed(-1, Integer.MIN_VALUE, 0x00FF0080, 0x80, -256), 4 + 1 + 2 + 1 + 3);
        due("none of them stands in a TEXT", c.fault(1), 0);
    }

    private static void feedToTheBrim() {
        sentence = "feed: how many it has. NONE: more than 500";
        CoinLoops c = new CoinLoops();
        for (int i = 1; i <= 25; i++) {
            due("feed " + i, feed(c, " ".repeat(20)), 20 * i);
        }
        due("noughts at 500", c.feed(0, 0, 0, 0, 0), 500);
        for (int size = 1; size <= 20; size++) {
            due(size + " more than 500", feed(c, " ".repeat(size)), -1);
            due("it stays full", c.count(0), 500);
        }
        for (int size = 1; size <= 20; size++) {
            due("end", c.end(500 - size), true);
            if (size < 20) {
                due("one more than the rest", feed(c, " ".repeat(size + 1)), -1);
                due("20 more than so many", feed(c, " ".repeat(20)), -1);
                due("it stays", c.count(0), 500 - size);
            }
            due("just the rest", feed(c, " ".repeat(size)), 500);
        }
        due("end(480)", c.end(480), true);
        due("just 20", feed(c, " ".repeat(20)), 500);
        due("end(481)", c.end(481), true);
        due("20 with a nought", c.feed(0x20202020, 0x20202020, 0x20002020, 0x20202020, 0x20202020), 500);
        due("refused ones count nowhere", c.status(0) + c.status(1) + c.status(2), 0);
    }

    private static void refusedFeedLeavesTheTape() {
        sentence = "feed: NONE: more than 500 (the TAPE as it was)";
        CoinLoops c = withLoop("x 1;while 0=0{}");
        tape(c, "7" + "+1".repeat(245));
        due("20 more than 491", feed(c, "+1+1+1+1+1+1+1+1+1+1"), -1);
        due("10 more than 491", feed(c, "+1+1+1+1+1"), -1);
        due("its bytes", c.count(0), 491);
        due("8 more", feed(c, "+1+1+1+1"), 499);
        due("taken", c.guess(), 1);
        due("none of what was refused", c.guessed(0, 0), 7 + 245 + 4);
    }

    private static void endBounds() {
        sentence = "end: The TAPE has its first n bytes alone. False: n";
        CoinLoops c = new CoinLoops();
        due("end(0) of none", c.end(0), true);
        due("end(1) of none", c.end(1), false);
        due("end(-1) of none", c.end(-1), false);
        tape(c, "x".repeat(500));
        for (int n : new int[] {501, 502, 1000, Integer.MAX_VALUE, -1, -500, Integer.MIN_VALUE}) {
            due("end(" + n + ")", c.end(n), false);
            due("it stays", c.count(0), 500);
        }
        due("end(500)", c.end(500), true);
        due("it stays", c.count(0), 500);
        due("end(499)", c.end(499), true);
        due("end(500) then", c.end(500), false);
        due("bytes", c.count(0), 499);
        due("end(1)", c.end(1), true);
        due("one byte", c.count(0), 1);
        due("feed goes on behind it", feed(c, "+41"), 4);
        due("x+41", c.guess(), 1);
        due("end(1) behind guess()", c.end(1), false);
        tape(c, "x 1;while 0=0{}").loop();
        due("end(1) behind loop()", c.end(1), false);
        due("end(0) behind loop()", c.end(0), true);
        due("the LOOP stays", c.rule(2), 2);
    }

    private static void faultLeavesAll() {
        sentence = "fault: -2: another what";
        CoinLoops c = new CoinLoops();
        for (int what : new int[] {2, 3, 100, Integer.MAX_VALUE, -1, -2, Integer.MIN_VALUE}) {
            due("fault(" + what + ") of nothing", c.fault(what), -2);
        }
        sentence = "fault: The FAULT of the TAPE";
        c = withGuess(withLoop(WALK), "2x");
        c.bind(0, 1);
        c.price(1, 9);
        tape(c, "x 3;y 1;while y=0{pay 7;out}");
        due("no FAULT", c.fault(0), -1);
        due("as a GUESS", c.fault(1), 2);
        due("no such what", c.fault(2), -2);
        due("the TAPE stays", c.count(0), 28);
        row("the LOOP stays", c::rule, 2, 0, 3, 6, 6, 1, 1, 1, 1);
        due("the price stays", choice(c, 1, 0, 1), 36);
        due("the pick stays BOUND", choice(c, 1, 0, 0), 1);
        tape(c, "x=1?1;x=2?9;0");
        due("no FAULT as a GUESS", c.fault(1), -1);
        due("as a LOOP", c.fault(0), 1);
        due("the GUESS stays", c.guessed(2, 0), 4);
        due("its PIECES", c.rule(7), 1);
    }

    private static void loopWithAFault() {
        sentence = "loop: NONE: a FAULT (the TAPE, all stays)";
        CoinLoops c = withGuess(withLoop(WALK), "2x");
        c.bind(0, 1);
        c.price(1, 9);
        c.rule(9);
        due("an empty TAPE", c.loop(), -1);
        tape(c, "x 3;y 1;while y=0{pay 7;out};");
        due("a FAULT at the end", c.loop(), -1);
        due("the TAPE stays", c.count(0), 29);
        row("rule", c::rule, 2, 0, 3, 6, 6, 1, 1, 1, 1);
        due("the price stays", choice(c, 1, 0, 1), 36);
        due("what is PAID", c.paid(2, true, 0), 36);
        due("the GUESS stays", c.guessed(2, 0), 4);
        due("STATUS stays", c.status(1), 1);
        due("without its last byte", c.end(28), true);
        due("it is taken", c.loop(), 8);
    }

    private static void loopAnew() {
        sentence = "loop: The TAPE (empty then) is the LOOP (no GUESS, no pick BOUND then)";
        CoinLoops c = withGuess(withLoop(WALK), "2x");
        c.bind(0, 1);
        c.price(1, 9);
        c.rule(9);
        c.paid(2, true, 0);
        c.within(2, 20, true, 1);
        c.best(2, 0);
        due("the same once more", tape(c, WALK).loop(), 3);
        due("the TAPE is empty", c.count(0), 0);
        row("rule", c::rule, 2, 0, 3, 6, 6, 1, 4, 0, 0);
        due("the price as told", choice(c, 1, 1, 1), 4);
        due("what is PAID", c.paid(2, true, 0), 4);
        due("within", c.within(2, 1, true, 1), 8);
        due("best", c.best(2, 0), 4);
        due("no GUESS", c.guessed(2, 0), NOT_TOLD);
        due("STATUS 0 by it", c.status(0), 1);
        due("STATUS stays", c.status(1), 1);
        due("a smaller one", tape(c, "x 0;while 0=0{pay 1;out}").loop(), 1);
        due("STATES beyond it", c.choices(1), -1);
        due("what is PAID", c.paid(0, true, 0), 1);
        due("beyond it", c.paid(1, true, 0), -1);
        due("a larger one", tape(c, "x 4;y 1;while 0=0{out}").loop(), 10);
        due("the last of its STATES", c.choices(9), 1);
        due("0 PAID", c.paid(9, true, 0), 0);
    }

    private static void guessWithAFault() {
        sentence = "guess: NONE: a FAULT (the TAPE, the GUESS stays)";
        CoinLoops c = withGuess(withLoop(WALK), "x=1?5;7 by 2");
        due("an empty TAPE", c.guess(), -1);
        tape(c, "x=1?1;x=2?2;3;");
        due("a FAULT", c.guess(), -1);
        due("the TAPE stays", c.count(0), 14);
        due("its PIECES", c.rule(7), 2);
        fraction("guessed", part -> c.guessed(2, part), 7, 2);
        due("guessed", c.guessed(1, 0), 5);
        due("without its last byte", c.end(13), true);
        due("it is taken", c.guess(), 3);
        due("the TAPE is empty", c.count(0), 0);
        due("guessed", c.guessed(2, 0), 2);
        sentence = "guess: it stays till the next loop(), guess()";
        c.bind(0, 1);
        c.price(0, 3);
        due("behind bind() and price()", c.guessed(2, 0), 2);
        tape(c, "x");
        due("a loop() that is none", c.loop(), -1);
        due("guessed", c.guessed(2, 0), 2);
        tape(c, WALK).loop();
        due("behind loop()", c.guessed(2, 0), NOT_TOLD);
        due("PIECES", c.rule(7), 0);
    }

    private static void guessWithoutALoop() {
        sentence = "guess: also without a LOOP";
        CoinLoops c = tape("x=0?1;3");
        due("PIECES", c.guess(), 2);
        due("the TAPE is empty", c.count(0), 0);
        due("guessed", c.guessed(0, 0), NOT_TOLD);
        due("no LOOP", c.status(0), 1);
        tape(c, WALK).loop();
        due("none behind loop()", c.rule(7), 0);
        due("refutes", c.refutes(0), -2);
        due("no GUESS", c.status(0), 2);
    }

    /** Nothing of a TEXT may be left in those that come after it on the same object. */
    private static void oneTextAfterAnother() {
        sentence = "loop: The TAPE is the LOOP (nothing of those ahead of it)";
        CoinLoops c = new CoinLoops();
        String more = "x=7 or ".repeat(12);
        for (int i = 0; i < 12; i++) {
            due("all are IN", tape(c, "x 4;y 1;while " + more + "0=0{pay 1;coin{pay 2}{pick{}{out}};coin{}{}}").loop(), 10);
            row("rule", c::rule, 4, 1, 10, 1023, 6, 1, -2, 0, 0);
            due("pays", c.most(7), 2);
            due("coins", c.most(8), 2);
            due("a FAULT between them", tape(c, "x 1;y 4;while 0=0{pay 1;coin{pick{}{}}").fault(0), 38);
            due("none is IN", tape(c, "x 3;while " + more + "0=1{}").loop(), 4);
            row("rule", c::rule, 3, 0, 4, 0, 0, 0, 1, 0, 0);
            due("pays", c.most(7), 0);
            due("coins", c.most(8), 0);
        }
        sentence = "guess: The TAPE is the GUESS (nothing of those ahead of it)";
        c = withLoop("x 1;while 0=0{}");
        for (int i = 0; i < 8; i++) {
            due("three PIECES", tape(c, more.repeat(2) + "x=1?5 by 7;" + more.repeat(2) + "x=0?6 by 5;9").guess(), 3);
            due("at 0", c.guessed(0, 0), 6);
            due("by", c.guessed(0, 1), 5);
            due("at 1", c.guessed(1, 0), 5);
            due("one PIECE", tape(c, "x+3").guess(), 1);
            due("at 0", c.guessed(0, 0), 3);
            due("by", c.guessed(0, 1), 1);
            due("a FAULT between them", tape(c, "x=0?1;y=0?2;").fault(1), 12);
        }
    }

    private static void longestTexts() {
        sentence = "feed: NONE: more than 500 (500 are a TEXT)";
        String head = "x 9;while x<9{x=x";
        CoinLoops c = tape(head + "-0".repeat((500 - head.length() - 3) / 2) + "+1}" + " ".repeat((500 - head.length() - 3) % 2));
        due("a LOOP of 500 bytes", c.loop(), 10);
        due("its SUM", c.leads(3, 0, 4), 4);
        c = withLoop("x 9;while 0=0{x=" + "99x+".repeat(120) + "x}");
        due("a far SUM, HELD", c.leads(1, 0, 9), 4);
        due("nought times", c.leads(0, 0, 0), 4);
        c = withLoop("x 9;while 0=0{x=0-" + "99x-".repeat(120) + "x}");
        due("a far SUM below 0, HELD", c.leads(9, 0, 0), 4);
        c = withLoop("x 1;while " + "0<x and ".repeat(58) + "x=1{}");
        due("59 ONES", c.rule(3), 2);
        c = withLoop("x 1;while " + "0>x or ".repeat(66) + "x=0{}");
        due("67 ALLS", c.rule(3), 1);
        withGuess(c, "1<1or".repeat(97) + " x=0?7;3");
        due("98 ALLS of a PIECE", c.guessed(0, 0), 7);
    }

    // ---------------------------------------------------------------- ==== 2. ROUNDS

    private static void statesInNumbers() {
        sentence = "STATES: x, and y times (N of x, and 1): numbers from 0 on";
        CoinLoops c = withGuess(withLoop("x 4;y 1;while 0=0{}"), "10y+x");
        row("10 STATES", s -> c.guessed(s, 0), 0, 1, 2, 3, 4, 10, 11, 12, 13, 14, NOT_TOLD);
        due("an eleventh", c.choices(10), -1);
        CoinLoops d = withGuess(withLoop("x 0;y 9;while 0=0{}"), "10y+x");
        row("10 STATES", s -> d.guessed(s, 0), 0, 10, 20, 30, 40, 50, 60, 70, 80, 90, NOT_TOLD);
        CoinLoops e = withGuess(withLoop("x 0;while 0=0{}"), "10y+x+1");
        row("one STATE", s -> e.guessed(s, 0), 1, NOT_TOLD);
        sentence = "A STATE is IN, if COND holds there, else OUT";
        due("all are IN", c.rule(3), 1023);
        due("none is IN", withLoop("x 4;y 1;while 0=1{}").rule(3), 0);
        due("the last alone", withLoop("x 4;y 1;while x+y=5{}").rule(3), 512);
        due("the first alone", withLoop("x 4;y 1;while x+y<1{}").rule(3), 1);
        due("just so much is not more", withLoop("x 4;while x>2{}").rule(3), 0b11000);
        due("just so much is not less", withLoop("x 4;while x<2{}").rule(3), 0b00011);
        due("2x is", withLoop("x 4;while 2x=4{}").rule(3), 0b00100);
        due("y on the right", withLoop("x 2;y 2;while x=y{}").rule(3), 0b100010001);
        due("x on the right", withLoop("x 2;y 2;while 2-y>x{}").rule(3), 0b000001011);
        due("or behind and", withLoop("x 4;while x>0 and x<2 or x=4{}").rule(3), 0b10010);
        due("and behind or", withLoop("x 4;while x=0 or x>2 and x<4{}").rule(3), 0b01001);
    }

    private static void held() {
        sentence = "x, y become SUMS, HELD (0 at least, N at most)";
        String[] sums = {"x-1", "x+1", "0", "3", "4", "99", "0-1", "0-99", "2x-3", "3-x"};
        int[][] want = {{0, 0, 1, 2}, {1, 2, 3, 3}, {0, 0, 0, 0}, {3, 3, 3, 3}, {3, 3, 3, 3}, {3, 3, 3, 3},
            {0, 0, 0, 0}, {0, 0, 0, 0}, {0, 0, 1, 3}, {3, 2, 1, 0}};
        for (int i = 0; i < sums.length; i++) {
            CoinLoops byX = withLoop("x 3;while 0=0{x=" + sums[i] + "}");
            CoinLoops byY = withLoop("x 1;y 3;while 0=0{y=" + sums[i].replace('x', 'y') + "}");
            for (int n = 0; n < 4; n++) {
                due("x=" + sums[i] + " from " + n, byX.leads(n, 0, want[i][n]), 4);
                due("y=" + sums[i] + " from " + n, byY.leads(2 * n + 1, 0, 2 * want[i][n] + 1), 4);
            }
        }
        due("HELD before the next", withLoop("x 3;while 0=0{x=x+9;x=x-3}").leads(2, 0, 0), 4);
        due("x at 0 alone", withLoop("x 0;while 0=0{x=x+9}").leads(0, 0, 0), 4);
    }

    private static void nothingBehindOut() {
        sentence = "out: the LOOP has ENDED, nothing more of it is done";
        CoinLoops c = withLoop("x 1;while x=0{coin{pay 2;out;pay 7;x=1}{};pay 5;x=1}");
        due("PAID", choice(c, 0, 0, 1), 4 + 10);
        due("by out", choice(c, 0, 0, 2), 2);
        due("to 1", c.leads(0, 0, 1), 2);
        due("to 0", c.leads(0, 0, 0), 0);
        due("coins behind it are not thrown", withLoop("x 0;while 0=0{out;coin{}{}}").run(0, 0, 0, 1, 4), 0);
        sentence = "OUT: the LOOP has ENDED; IN: the next ROUND";
        c = withLoop("x 1;while x=0{x=1}");
        due("not by out", choice(c, 0, 0, 2), 0);
        due("to what is OUT", c.leads(0, 0, 1), 4);
    }

    private static void allEightChoices() {
        sentence = "the first pick tells 1, the second 2, the third 4, each if its second BODY is picked";
        CoinLoops c = withLoop("x 9;while 0=0{pick{}{pay 1};pick{}{pay 2};pick{}{pay 4}}");
        for (int state = 0; state < 10; state++) {
            due("choices(" + state + ")", c.choices(state), 8);
            for (int i = 0; i < 8; i++) {
                due("its number", choice(c, state, i, 0), i);
                due("what is PAID", choice(c, state, i, 1), 4 * i);
                due("where to", c.leads(state, i, state), 4);
            }
            due("a ninth", choice(c, state, 8, 0), THROWS);
            due("a ninth", c.leads(state, 8, 0), -1);
        }
        due("TOO MANY PLANS", c.rule(6), -2);
    }

    private static void alikeChoices() {
        sentence = "of alike ones the first alone";
        CoinLoops c = withLoop("x 2;while x=0{pick{}{pay 1};pick{}{pay 1};pick{}{pay 2}}");
        due("five of eight", c.choices(0), 5);
        row("numbers", i -> choice(c, 0, i, 0), 0, 1, 3, 5, 7, THROWS);
        row("PAID", i -> choice(c, 0, i, 1), 0, 4, 8, 12, 16, THROWS);
        due("no pick at all", withLoop("x 0;while 0=0{}").choices(0), 1);
        due("picks that tell nothing", withLoop("x 0;while 0=0{pick{}{};pick{x=0}{}}").choices(0), 1);
        sentence = "what is PAID in the mean, by quarters; how many quarters lead to each STATE, how many ENDED by out";
        due("a quarter more is PAID", withLoop("x 0;while 0=0{pick{}{coin{coin{pay 1}{}}{}}}").choices(0), 2);
        due("a quarter leads elsewhere", withLoop("x 9;while x<9{pick{}{coin{coin{x=9}{}}{}}}").choices(8), 2);
        due("a quarter ENDED by out", withLoop("x 1;while x=0{pick{x=1}{coin{coin{out}{x=1}}{x=1}}}").choices(0), 2);
        due("which quarters is one", withLoop("x 1;while x=0{pick{coin{x=1}{}}{coin{}{x=1}}}").choices(0), 1);
        due("which of them PAID is one", withLoop("x 1;while x=0{pick{coin{x=1;pay 1}{}}{coin{x=1}{pay 1}}}").choices(0), 1);
        due("4 in one quarter is 1 in each", withLoop("x 0;while 0=0{pick{coin{coin{pay 4}{}}{}}{pay 1}}").choices(0), 1);
    }

    private static void boundChoices() {
        sentence = "A pick may be BOUND by hand (to 0 or 1: other numbers are left out)";
        CoinLoops c = withLoop("x 0;while 0=0{pick{}{pay 1};pick{}{pay 2};pick{}{pay 4}}");
        due("bind(1, 1)", c.bind(1, 1), 4);
        row("numbers", i -> choice(c, 0, i, 0), 2, 3, 6, 7, THROWS);
        due("bind(2, 0)", c.bind(2, 0), 2);
        row("numbers", i -> choice(c, 0, i, 0), 2, 3, THROWS);
        due("bind(0, 1)", c.bind(0, 1), 1);
        row("numbers", i -> choice(c, 0, i, 0), 3, THROWS);
        due("bits", c.rule(8), 7);
        due("bind(1, NONE)", c.bind(1, -1), 2);
        row("numbers", i -> choice(c, 0, i, 0), 1, 3, THROWS);
        due("bits", c.rule(8), 5);
        due("bind(2, 1)", c.bind(2, 1), 2);
        row("numbers", i -> choice(c, 0, i, 0), 5, 7, THROWS);
        due("bind(0, NONE)", c.bind(0, -1), 4);
        due("bind(2, NONE)", c.bind(2, -1), 8);
        due("free again", c.rule(8), 0);
    }

    // ---------------------------------------------------------------- PLANS and ODDS

    /** Three picks that pay a, b, c: as many CHOICES as there are sums of them. */
    private static String sumsFor(String first, String second, String third) {
        return "pick{" + first + "}{};pick{" + second + "}{};pick{" + third + "}{}";
    }

    private static void howManyPlans() {
        sentence = "There are TOO MANY PLANS, if there would be more than 64";
        due("8 times 8", withLoop("x 1;while 0=0{" + sumsFor("pay 1", "pay 2", "pay 4") + "}").rule(6), 64);
        due("8 times 8, others OUT", withLoop("x 9;while x<2{" + sumsFor("pay 1", "pay 2", "pay 4") + "}").rule(6), 64);
        due("8 times 8 times 8", withLoop("x 2;while 0=0{" + sumsFor("pay 1", "pay 2", "pay 4") + "}").rule(6), -2);
        due("4 times 4 times 4", withLoop("x 2;while 0=0{pick{pay 1}{};pick{pay 2}{}}").rule(6), 64);
        due("2, six times", withLoop("x 5;while 0=0{pick{pay 1}{}}").rule(6), 64);
        due("2, seven times", withLoop("x 6;while 0=0{pick{pay 1}{}}").rule(6), -2);
        due("3, three times", withLoop("x 2;while 0=0{pick{pay 1}{};pick{pay 1}{}}").rule(6), 27);
        due("3, four times", withLoop("x 3;while 0=0{pick{pay 1}{};pick{pay 1}{}}").rule(6), -2);
        due("7 times 3 times 3", withLoop("x 2;while 0=0{"
                + sumsFor("pay 1", "if x=0{pay 2}{pay 1}", "if x=0{pay 3}{}") + "}").rule(6), 63);
        due("7 times 5 times 2", withLoop("x 2;while 0=0{"
                + sumsFor("pay 1", "if x=0{pay 2}{if x=1{pay 1}{}}", "if x=0{pay 3}{if x=1{pay 2}{}}") + "}").rule(6), -2);
        due("8, ten times", withLoop("x 9;while 0=0{" + sumsFor("pay 1", "pay 2", "pay 4") + "}").rule(6), -2);
        due("none is IN", withLoop("x 9;while 0=1{" + sumsFor("pay 1", "pay 2", "pay 4") + "}").rule(6), 1);
        CoinLoops c = withLoop(MANY);
        due("128", c.rule(6), -2);
        due("price() makes them alike", c.price(0, 2), 1);
        due("then", c.rule(6), 1);
        due("paid() answers", c.paid(0, true, 0), -2);
        due("price() makes them unlike", c.price(0, 3), 2);
        due("then", c.paid(0, true, 0), -1);
    }

    private static void lastOfAllPlans() {
        sentence = "LEAST, MOST: of all PLANS (64 are not TOO MANY)";
        CoinLoops c = withLoop("x 6;while x<6{pick{pay 1;x=x+1}{x=x+1}}");
        due("PLANS", c.rule(6), 64);
        due("LEAST by the last", c.paid(0, false, 0), 0);
        due("MOST by the first", c.paid(0, true, 0), 6);
        row("LEAST goes by", s -> c.plan(0, false, s), 1, 1, 1, 1, 1, 1, -1);
        row("MOST goes by", s -> c.plan(0, true, s), 0, 0, 0, 0, 0, 0, -1);
        row("from 4", s -> c.plan(4, false, s), 0, 0, 0, 0, 1, 1, -1);
        CoinLoops last = withLoop("x 6;while x<6{pick{x=x+1}{pay 1;x=x+1}}");
        due("LEAST by the first", last.paid(0, false, 0), 0);
        due("MOST by the last", last.paid(0, true, 0), 6);
        row("LEAST goes by", s -> last.plan(0, false, s), 0, 0, 0, 0, 0, 0, -1);
        row("MOST goes by", s -> last.plan(0, true, s), 1, 1, 1, 1, 1, 1, -1);
        sentence = "LEAST, MOST: ODDS of all PLANS (64 are not TOO MANY)";
        CoinLoops odds = withLoop("x 6;while x<6{pick{x=x+1}{coin{x=x+1}{}}}");
        row("ENDS", s -> odds.ends(s, false, 0), 1, 1, 1, 1, 1, 1, 1);
        CoinLoops traps = withLoop("x 6;while x<6{pick{x=x+1}{}}");
        row("LEAST", s -> traps.ends(s, false, 0), 0, 0, 0, 0, 0, 0, 1);
        row("MOST", s -> traps.ends(s, true, 0), 1, 1, 1, 1, 1, 1, 1);
        CoinLoops other = withLoop("x 6;while x<6{pick{}{x=x+1}}");
        row("LEAST", s -> other.ends(s, false, 0), 0, 0, 0, 0, 0, 0, 1);
        row("MOST", s -> other.ends(s, true, 0), 1, 1, 1, 1, 1, 1, 1);
        // by one PLAN 1 is never left, by the other it ENDS: more equations than before
        CoinLoops grown = withLoop("x 1;while 0=0{if x=0{pay 1;coin{x=1}{out}}{pick{}{out}}}");
        fraction("LEAST", part -> grown.ends(0, false, part), 1, 2);
        fraction("MOST", part -> grown.ends(0, true, part), 1, 1);
        fraction("PAID", part -> grown.paid(0, true, part), 1, 1);
        sentence = "LEAST, MOST: of each STATE for itself";
        CoinLoops d = withLoop("x 1;while 0=0{pick{if x=0{pay 1}{pay 3}}{if x=0{pay 3}{pay 1}};out}");
        row("LEAST", s -> d.paid(s, false, 0), 1, 1);
        row("MOST", s -> d.paid(s, true, 0), 3, 3);
    }

    private static void firstStatesChangeSlowest() {
        sentence = "PLANS: the first STATE's CHOICES change slowest";
        CoinLoops c = withLoop("x 1;while 0=0{if x=0{pick{x=1}{out}}{pick{pay 1;out}{out}}}");
        due("PLANS", c.rule(6), 4);
        due("the first by which LEAST is PAID, at 0", c.plan(0, false, 0), 0);
        due("the first by which LEAST is PAID, at 1", c.plan(0, false, 1), 1);
        sentence = "plan: what is without end is the most";
        c = withLoop("x 2;while x<2{pick{pay 20;x=2}{pick{pay 1}{x=2}}}");
        due("MOST", c.plan(0, true, 0), 1);
        due("LEAST", c.plan(0, false, 0), 2);
        due("of an alike state the first", c.plan(0, true, 1), 0);
        sentence = "plan: NONE: it is OUT there";
        due("OUT there", c.plan(0, true, 2), -1);
        due("from what is OUT the first PLAN", c.plan(2, true, 1), 0);
        due("one CHOICE there", withLoop("x 1;while 0=0{if x=0{pick{}{out}}{out}}").plan(0, true, 1), 0);
        due("from what is OUT, OUT there", c.plan(2, false, 2), -1);
    }

    private static void withoutEnd() {
        sentence = "without end, if with odds above 0 one comes into STATES that are never left for others, nor ENDED, together, in which something is PAID";
        CoinLoops c = withLoop("x 0;while 0=0{coin{coin{pay 1}{}}{}}");
        fraction("a quarter of 1", part -> c.paid(0, true, part), -2, -2);
        fraction("LEAST too", part -> c.paid(0, false, part), -2, -2);
        c.price(0, 0);
        fraction("0 is PAID", part -> c.paid(0, true, part), 0, 1);
        CoinLoops d = withLoop("x 4;while x<4{if x=0{pay 1;coin{coin{x=1}{}}{x=4}}{if x=1{x=2}{if x=2{x=3}{pay 2;x=1}}}}");
        due("three together, odds of a third", d.paid(0, false, 0), -2);
        d.price(1, 0);
        fraction("nothing is PAID in them", part -> d.paid(0, false, part), 4, 3);
        fraction("ODDS of two thirds", part -> d.ends(0, true, part), 2, 3);
        fraction("ODDS of none", part -> d.ends(2, true, part), 0, 1);
        CoinLoops e = withLoop("x 2;while x<2{pay 1;coin{x=1-x}{coin{}{out}}}");
        fraction("ENDED by a quarter", part -> e.paid(0, true, part), 4, 1);
        CoinLoops f = withLoop("x 2;while 0=0{if x=0{pay 3;coin{x=1}{x=2}}{if x=1{x=2}{x=1}}}");
        fraction("left for those that are never left", part -> f.paid(0, true, part), 3, 1);
        fraction("those that are never left", part -> f.paid(2, true, part), 0, 1);
        fraction("it never ENDS", part -> f.ends(0, true, part), 0, 1);
        CoinLoops g = withLoop("x 2;while 0=0{if x<2{pay 1;x=x+1}{}}");
        row("one after another", s -> g.paid(s, false, 0), 2, 1, 0);
        CoinLoops h = withLoop("x 2;while 0=0{if x=0{coin{x=1}{x=2}}{if x=1{pay 1}{}}}");
        row("two traps, one that pays", s -> h.paid(s, true, 0), -2, -2, 0);
        CoinLoops i = withLoop("x 3;while 0=0{if x=1{x=0}{if x=0{x=3}{if x=3{pay 1;x=3}{out}}}}");
        row("come to by way of 0", s -> i.paid(s, true, 0), -2, -2, 0, -2);
        sentence = "Of a STATE that is OUT: 0 PAID, ODDS 1";
        fraction("0 PAID", part -> e.paid(2, false, part), 0, 1);
        fraction("0 PAID", part -> e.paid(2, true, part), 0, 1);
        fraction("ODDS 1", part -> e.ends(2, false, part), 1, 1);
        fraction("ODDS 1", part -> e.ends(2, true, part), 1, 1);
    }

    private static void lowestTerms() {
        sentence = "All fractions in lowest terms (0 by 1, 1 by 1)";
        CoinLoops c = withLoop("x 3;while x>0 and x<3{pay 6;coin{x=x-1}{coin{x=x+1}{}}}");
        // of 1: 4/3 times 6 and 1/3 of 2; of 2: 8 and 2/3 of 1
        fraction("paid", part -> c.paid(1, true, part), 96, 7);
        fraction("paid", part -> c.paid(2, true, part), 120, 7);
        fraction("ends", part -> c.ends(1, false, part), 1, 1);
        CoinLoops d = withLoop("x 4;while x<4{if x<3{x=x+1;pay 2}{coin{coin{x=4}{x=5;pay 4}}{out}}}");
        fraction("7 in all", part -> d.paid(0, true, part), 7, 1);
        fraction("ODDS 1", part -> d.ends(0, true, part), 1, 1);
        CoinLoops e = withGuess(withLoop("x 1;while 0=0{pay 2;coin{x=0}{x=1}}"), "x=0?6 by 4;0 by 12");
        fraction("guessed", part -> e.guessed(0, part), 3, 2);
        fraction("guessed", part -> e.guessed(1, part), 0, 1);
        fraction("ahead", part -> e.ahead(0, 0, part), 11, 4);
        fraction("nothing PAID, never ENDED", part -> withLoop("x 0;while 0=0{}").paid(0, true, part), 0, 1);
        fraction("nothing PAID, never ENDED", part -> withLoop("x 0;while 0=0{}").ends(0, true, part), 0, 1);
    }

    private static void unsureStates() {
        sentence = "unsure: The first STATE from which it does not END surely (ODDS 1) by each PLAN. NONE: none";
        due("the last alone", withLoop("x 9;while x>0{if x<9{x=0}{}}").unsure(), 9);
        due("the first", withLoop("x 9;while 0=0{if x=0{}{out}}").unsure(), 0);
        due("by one of the PLANS", withLoop("x 1;while 0=0{pick{out}{if x=1{}{out}}}").unsure(), 1);
        due("odds of three quarters", withLoop("x 2;while x<2{if x=1{}{coin{coin{x=1}{x=2}}{x=2}}}").unsure(), 0);
        CoinLoops c = withLoop("x 2;while x<2{pick{x=2}{x=1}}");
        due("by some PLAN not", c.unsure(), 0);
        c.bind(0, 0);
        due("none", c.unsure(), -1);
        due("none is IN", withLoop("x 2;while 0=1{}").unsure(), -1);
        due("a slow one ENDS surely", withLoop("x 9;while x<9{coin{coin{x=x+1}{x=0}}{x=0}}").unsure(), -1);
    }

    private static void widestEquations() {
        sentence = "by equations in whole fractions: what is PAID in all from a STATE";
        CoinLoops c = withLoop("x 9;y 0;while 0=0{" + "pay 20;".repeat(16) + "coin{coin{if x=9{out}{x=x+1}}{x=0}}{x=0};pay 20}");
        // ten quarters in a row: 4 + 16 + .. + 4 to the 10 ROUNDS, 17 pays in each, 16 in the last
        long many = 4 * ((1L << 20) - 1) / 3;
        fraction("paid", part -> c.paid(0, true, part), 340 * many - 20, 1);
        fraction("ends", part -> c.ends(0, false, part), 1, 1);
        CoinLoops d = withLoop("x 9;while x<9{coin{coin{x=x+1}{if x=0{out}{x=x-1}}}{if x=0{out}{x=0}}}");
        // ODDS of x = 9 don't show: each way ENDS
        fraction("ends", part -> d.ends(8, true, part), 1, 1);
    }

    // ---------------------------------------------------------------- WITHIN and half

    private static void withinBounds() {
        sentence = "WITHIN n ROUNDS (0 .. 20)";
        CoinLoops c = withLoop("x 1;while x=0{pay 3;coin{x=1}{}}");
        for (int n = 0; n <= 20; n++) {
            long all = 1L << (2 * n);
            long still = 1L << n;
            due("odds within " + n, c.within(0, n, false, 0), all - still);
            due("PAID within " + n, c.within(0, n, true, 1), 6 * (all - still));
            due("OUT within " + n, c.within(1, n, true, 0), all);
            due("OUT: PAID within " + n, c.within(1, n, false, 1), 0);
        }
        for (int n : new int[] {21, 22, 64, Integer.MAX_VALUE, -1, -20, Integer.MIN_VALUE}) {
            due("within(0, " + n + ")", c.within(0, n, true, 0), -1);
        }
        due("STATUS 1", c.status(1), 7);
        sentence = "WITHIN: picks being free anew in each ROUND";
        CoinLoops d = withLoop("x 1;while x=0{pick{pay 1}{pay 3;x=1}}");
        row("MOST: one goes on till the last", n -> d.within(0, n, true, 1), 0, 3 * 4, 4 * 16, 5 * 64);
        row("LEAST", n -> d.within(0, n, false, 1), 0, 4, 2 * 16, 3 * 64, 3 * 256);
        row("odds, MOST", n -> d.within(0, n, true, 0), 0, 4, 16, 64);
        row("odds, LEAST", n -> d.within(0, n, false, 0), 0, 0, 0, 0);
        sentence = "WITHIN: picks that are BOUND, pays that are others";
        d.bind(0, 1);
        row("odds, LEAST", n -> d.within(0, n, false, 0), 0, 4, 16, 64);
        row("PAID, MOST", n -> d.within(0, n, true, 1), 0, 3 * 4, 3 * 16, 3 * 64);
        d.price(1, 7);
        row("PAID, LEAST", n -> d.within(0, n, false, 1), 0, 7 * 4, 7 * 16, 7 * 64);
        d.bind(0, 0);
        row("odds, MOST", n -> d.within(0, n, true, 0), 0, 0, 0, 0);
        row("PAID, MOST", n -> d.within(0, n, true, 1), 0, 4, 2 * 16, 3 * 64);
    }

    private static void withinTheMost() {
        sentence = "WITHIN: told by how many of 4 to the power of n";
        CoinLoops c = withLoop("x 9;while 0=0{" + "pay 20;".repeat(23) + "pay 20}");
        due("480 in each of 20", c.within(9, 20, true, 1), 9600L << 40);
        due("480 in each of 20", c.within(9, 20, false, 1), 9600L << 40);
        due("never ENDED", c.within(9, 20, true, 0), 0);
        due("ENDED at once", withLoop("x 0;while 0=0{out}").within(0, 20, false, 0), 1L << 40);
        due("by a quarter, in one", withLoop("x 0;while 0=0{coin{coin{out}{}}{}}").within(0, 1, false, 0), 1);
        due("by a quarter, in two", withLoop("x 0;while 0=0{coin{coin{out}{}}{}}").within(0, 2, false, 0), 7);
    }

    private static void halfBounds() {
        sentence = "half: The fewest ROUNDS (0 .. 20) WITHIN which it has ENDED with odds of a half at least";
        due("0: it is OUT", withLoop("x 1;while x=0{}").half(1), 0);
        due("1: surely", withLoop("x 0;while 0=0{out}").half(0), 1);
        due("1: just a half", withLoop("x 0;while 0=0{coin{out}{}}").half(0), 1);
        due("2: by quarters just below a half in one", withLoop("x 2;while x<2{if x=0{coin{coin{out}{x=1}}{x=1}}{out}}").half(0), 2);
        // 7 of 16 in two ROUNDS, 37 of 64 in three
        due("3: a quarter each", withLoop("x 0;while 0=0{coin{coin{out}{}}{}}").half(0), 3);
        sentence = "half: by whatever is picked";
        due("the slower one", withLoop("x 0;while 0=0{pick{out}{coin{out}{coin{}{}}}}").half(0), 1);
        due("never by one of them", withLoop("x 0;while 0=0{pick{out}{}}").half(0), -1);
        sentence = "half: NONE: not so few";
        CoinLoops c = withLoop("x 9;y 0;while x>0{if x=9{coin{x=8}{}}{x=x-1}}");
        due("9: one coin, eight ROUNDS", c.half(9), 9);
        due("8", c.half(8), 8);
        CoinLoops d = withLoop("x 4;y 1;while y=0 or x>0{if x=0{x=4;y=1}{x=x-1}}");
        due("9 in a row", d.half(4), 9);
        CoinLoops e = withLoop("x 7;while x<7{if x<2{x=x+1}{coin{coin{x=x+1}{}}{}}}");
        row("from 2 on in 19", e::half, -1, 20, 19);
    }

    // ---------------------------------------------------------------- GUESSES

    private static void pieceThatHolds() {
        sentence = "the SUM of the first PIECE whose COND holds there (the last one always does)";
        CoinLoops c = withGuess(withLoop("x 9;while 0=0{}"),
                "x=0?10;x<2?11;x<3?12;x<4?13;x<5?14;x<6?15;x<7?16;17");
        row("eight PIECES", s -> c.guessed(s, 0), 10, 11, 12, 13, 14, 15, 16, 17, 17, 17);
        withGuess(c, "x>4?1;x>2?2;0=0?3;9");
        row("the first of several", s -> c.guessed(s, 0), 3, 3, 3, 2, 2, 1, 1, 1, 1, 1);
        withGuess(c, "x<0?1;2");
        row("none but the last", s -> c.guessed(s, 0), 2, 2, 2, 2, 2, 2, 2, 2, 2, 2);
    }

    private static void guessOfOut() {
        sentence = "of ENDED, and of what is OUT, 0 (SUMS below 0, too)";
        CoinLoops c = withGuess(withLoop("x 2;while x=1{pay 4;coin{x=2}{coin{out}{}}}"), "0-5 by 10");
        row("guessed", s -> c.guessed(s, 0), 0, -1, 0);
        row("its lower number", s -> c.guessed(s, 1), 1, 2, 1);
        fraction("ahead", part -> c.ahead(1, 0, part), 31, 8);
        due("below 0 where it is IN", c.refutes(0), 1);
        withGuess(c, "x=1?6;0-9");
        due("below 0 where it is OUT", c.refutes(0), -1);
        due("OUT is not counted", c.refutes(1), -1);
    }

    private static int refutes(CoinLoops c, String text, int rule) {
        return withGuess(c, text).refutes(rule);
    }

    private static void refutedByAHair() {
        CoinLoops c = withLoop("x 1;while x=1{pay 3;coin{coin{}{out}}{x=0}}");
        sentence = "0 BOUNDS THE MOST: where it is below 0, or less than AHEAD by some CHOICE";
        due("just AHEAD", refutes(c, "4", 0), -1);
        due("a twelfth less", refutes(c, "47 by 12", 0), 1);
        due("a twelfth more", refutes(c, "49 by 12", 0), -1);
        sentence = "1 BOUNDS THE LEAST: where it is below 0, or less than AHEAD by each CHOICE";
        due("just AHEAD", refutes(c, "4", 1), -1);
        due("a twelfth less", refutes(c, "47 by 12", 1), 1);
        sentence = "3 IS BELOW THE LEAST: where it is more than AHEAD by some CHOICE";
        due("just AHEAD", refutes(c, "4", 3), -1);
        due("a twelfth more", refutes(c, "49 by 12", 3), 1);
        due("a twelfth less", refutes(c, "47 by 12", 3), -1);
        due("below 0", refutes(c, "0-1", 3), -1);
        sentence = "2 DESCENDS: where it is below 0, or what is PAID not counted, less than 1 more than AHEAD by some CHOICE";
        CoinLoops d = withLoop("x 0;while 0=0{pay 20;coin{out}{}}");
        due("just 1 more", refutes(d, "2", 2), -1);
        due("a twelfth less", refutes(d, "23 by 12", 2), 0);
        CoinLoops e = withLoop("x 1;while x=1{pay 20;x=0}");
        due("to what is OUT, just 1", refutes(e, "1", 2), -1);
        due("a twelfth less", refutes(e, "11 by 12", 2), 1);
        sentence = "4 FALLS: no quarter leads to ENDED, OUT, or to a STATE where the GUESS is less by 1 at least";
        CoinLoops f = withLoop("x 1;while 0=0{if x=0{out}{coin{coin{x=0}{}}{}}}");
        due("just 1 less, by one quarter", refutes(f, "x", 4), -1);
        due("a twelfth less than 1 less", refutes(f, "11x by 12", 4), 1);
        due("to ENDED by one quarter", refutes(withLoop("x 0;while 0=0{coin{coin{out}{}}{}}"), "0", 4), -1);
        due("to OUT by one quarter", refutes(withLoop("x 1;while x=0{coin{coin{x=1}{}}{}}"), "0", 4), -1);
        due("to OUT, whatever the TEXT tells there", refutes(withLoop("x 1;while x=0{x=1}"), "9x", 4), -1);
        due("to none", refutes(withLoop("x 0;while 0=0{coin{}{}}"), "99", 4), 0);
        sentence = "where it is below 0";
        CoinLoops g = withLoop("x 0;while 0=0{out}");
        for (int rule = 0; rule < 5; rule++) {
            due("0 by rule " + rule, refutes(g, "0", rule), rule == 2 ? 0 : -1);
            due("1 by rule " + rule, refutes(g, "1", rule), rule == 3 ? 0 : -1);
            due("a twelfth below 0 by rule " + rule, refutes(g, "0-1 by 12", rule), rule == 3 ? -1 : 0);
        }
    }

    private static void refutedByTheLastChoice() {
        sentence = "by some CHOICE, by each CHOICE";
        String body = sumsFor("pay 1", "pay 2", "pay 4");
        CoinLoops c = withLoop("x 0;while 0=0{" + body + ";out}");
        // AHEAD by CHOICE 0 is 7, by CHOICE 7 it is 0
        due("0: less by the first alone", refutes(c, "6", 0), 0);
        due("0: less by none", refutes(c, "7", 0), -1);
        due("1: less by all but the last", refutes(c, "0", 1), -1);
        due("3: more by the last alone", refutes(c, "1", 3), 0);
        due("3: more by none", refutes(c, "0", 3), -1);
        c = withLoop("x 0;while 0=0{pay 1;" + body + ";out}");
        due("1: less by each", refutes(c, "11 by 12", 1), 0);
        due("1: less by all but one", refutes(c, "1", 1), -1);
        c = withLoop("x 1;while 0=0{if x=0{out}{};pick{out}{pick{out}{pick{out}{}}}}");
        due("2: by the last alone", refutes(c, "9", 2), 1);
        due("4: by the last alone", refutes(c, "9", 4), 1);
        c.bind(2, 0);
        due("2: that is left out", refutes(c, "9", 2), -1);
        due("4: that is left out", refutes(c, "9", 4), -1);
        c = withLoop("x 1;while x=1{pick{x=0}{pay 1;coin{x=0}{}}}");
        due("4: by each of two", refutes(c, "1", 4), -1);
        due("2: just 1 more by each of two", refutes(c, "2", 2), -1);
        due("2: by the first alone", refutes(c, "1", 2), 1);
    }

    private static void refutedInTheLastState() {
        sentence = "A GUESS REFUTES: the first STATE that is IN";
        CoinLoops c = withLoop("x 9;while x>0{pay 1;x=x-1}");
        due("0: the last", refutes(c, "x=9?8;x", 0), 9);
        due("0: the first", refutes(c, "x-1", 0), 1);
        due("1: the last", refutes(c, "x=9?8;x", 1), 9);
        due("2: the last", refutes(c, "x=9?8;x", 2), 9);
        due("3: the last", refutes(c, "x=9?10;x", 3), 9);
        due("4: the last", refutes(c, "x=9?8;x", 4), 9);
        for (int rule = 0; rule < 5; rule++) {
            due("none by rule " + rule, refutes(c, "x", rule), -1);
            due("none is IN by rule " + rule, refutes(withLoop("x 9;while 0=1{}"), "0-9", rule), -1);
        }
    }

    private static void farGuesses() {
        sentence = "SUMS as above; below 0, too";
        CoinLoops c = withLoop("x 9;while 0=0{pay 20}");
        withGuess(c, "0" + "-99x".repeat(123) + " by 7");
        fraction("far below 0", part -> c.guessed(8, part), -97416, 7);
        fraction("0", part -> c.guessed(0, part), 0, 1);
        withGuess(c, "1" + "+99x".repeat(123) + " by 11");
        fraction("far above", part -> c.guessed(9, part), 109594, 11);
        fraction("ahead", part -> c.ahead(9, 0, part), 109594 + 220, 11);
        due("less than AHEAD", c.refutes(0), 0);
    }

    // ---------------------------------------------------------------- STRAIGHT guesses

    private static void bestIs(CoinLoops c, int state, long... eight) {
        row("best(" + state + ")", what -> c.best(state, what), eight);
    }

    private static void numbersThatAreNought() {
        sentence = "b is 0, if N of y is 0, a 0, if N of x is 0";
        bestIs(withLoop("x 0;y 0;while 0=0{pay 5;out}"), 0, 5, 1, 0, 1, 0, 1, 5, 1);
        bestIs(withLoop("x 0;while 0=0{pay 5;coin{coin{out}{}}{}}"), 0, 20, 1, 0, 1, 0, 1, 20, 1);
        CoinLoops c = withLoop("x 9;while x>0{pay 1;x=x-1}");
        bestIs(c, 9, 9, 1, 1, 1, 0, 1, 0, 1);
        CoinLoops d = withLoop("x 0;y 9;while y>0{pay 1;coin{y=y-1}{}}");
        bestIs(d, 9, 18, 1, 0, 1, 2, 1, 0, 1);
        bestIs(withLoop("x 1;y 0;while 0=0{pay 1;out}"), 1, 1, 1, 0, 1, 0, 1, 1, 1);
        sentence = "not below 0 there";
        bestIs(withLoop("x 1;y 1;while 0=0{out}"), 3, 0, 1, 0, 1, 0, 1, 0, 1);
    }

    private static void noCorner() {
        sentence = "BEST: none, if there is no CORNER";
        for (int what = 0; what < 8; what++) {
            due("a trap that pays", withLoop(TRAP).best(0, what), NOT_TOLD);
            due("one STATE, two numbers", withLoop("x 2;while x=1{pay 1;out}").best(1, what), NOT_TOLD);
            due("two STATES, three numbers", withLoop("x 1;y 1;while y=0{pay 1;out}").best(1, what), NOT_TOLD);
        }
        bestIs(withLoop("x 1;y 1;while x+y<2{pay 1;out}"), 2, 1, 1, 0, 1, 0, 1, 1, 1);
        CoinLoops c = withLoop(TRAP);
        c.best(0, 0);
        due("none is not refused", c.status(1), 0);
        due("price() makes one", c.price(0, 0), 1);
        bestIs(c, 0, 0, 1, 0, 1, 0, 1, 0, 1);
        due("price() takes it again", c.price(0, 1), 0);
        due("none then", c.best(0, 0), NOT_TOLD);
        due("none then", c.best(1, 7), NOT_TOLD);
        sentence = "independent of each other";
        due("three in a row of STATES", withLoop("x 2;y 2;while y=1{pay 1;out}").best(4, 0), NOT_TOLD);
    }

    private static void cornersThatTie() {
        sentence = "BEST: of several that of least a, then of least b";
        CoinLoops c = withLoop("x 2;while 0=0{if x=1{pay 2}{};out}");
        bestIs(c, 1, 2, 1, -2, 1, 0, 1, 4, 1);
        CoinLoops d = withLoop("x 0;y 2;while 0=0{if y=1{pay 2}{};out}");
        bestIs(d, 1, 2, 1, 0, 1, -2, 1, 4, 1);
        CoinLoops e = withLoop("x 1;y 2;while 0=0{if y=1{pay 2}{};out}");
        bestIs(e, 2, 2, 1, 0, 1, -2, 1, 4, 1);
        bestIs(e, 3, 2, 1, 0, 1, -2, 1, 4, 1);
        sentence = "BEST for a STATE that is IN: the CORNER at which it tells least there";
        bestIs(c, 0, 0, 1, 2, 1, 0, 1, 0, 1);
        bestIs(c, 2, 0, 1, -2, 1, 0, 1, 4, 1);
    }

    private static void mostConditions() {
        sentence = "of a STATE: not below 0; of a STATE and a CHOICE: not less than AHEAD";
        CoinLoops c = withLoop("x 4;y 1;while 0=0{" + sumsFor("pay 1", "pay 2", "if x+y=5{pay 20}{pay 4}") + ";out}");
        due("80 CHOICES", c.choices(9), 8);
        // 7 is PAID at most, but 23 in the last of ten STATES
        bestIs(c, 9, 23, 1, 0, 1, 16, 1, 7, 1);
        bestIs(c, 0, 7, 1, 0, 1, 16, 1, 7, 1);
        bestIs(c, 4, 7, 1, 0, 1, 16, 1, 7, 1);
        bestIs(c, 5, 7, 1, 4, 1, 0, 1, 7, 1);
        CoinLoops d = withLoop("x 4;y 1;while 0=0{pick{}{pay 1};pick{}{pay 2};pick{}{if x+y=5{pay 20}{pay 4}};out}");
        bestIs(d, 9, 23, 1, 0, 1, 16, 1, 7, 1);
        bestIs(d, 5, 7, 1, 4, 1, 0, 1, 7, 1);
        due("the dearest is left out", d.bind(2, 0), -2);
        bestIs(d, 9, 3, 1, 0, 1, 0, 1, 3, 1);
    }

    // ---------------------------------------------------------------- RUNS

    private static void runIs(CoinLoops c, int state, int picks, int seed, int rounds, long... five) {
        row("run(" + state + ", " + picks + ", " + seed + ", " + rounds + ")",
                what -> c.run(state, picks, seed, rounds, what), five);
    }

    private static void roundsOfARun() {
        sentence = "run: ROUNDS (0 .. 200)";
        CoinLoops c = withLoop("x 9;while x<9{pay 2;x=x+1}");
        runIs(c, 0, 0, 0, 0, 0, 0, 0, 0, 0);
        runIs(c, 0, 0, 0, 1, 0, 1, 2, 1, 0);
        runIs(c, 0, 0, 0, 8, 0, 8, 16, 8, 0);
        runIs(c, 0, 0, 0, 9, 1, 9, 18, 9, 0);
        runIs(c, 0, 0, 0, 10, 1, 9, 18, 9, 0);
        runIs(c, 0, 0, 0, 200, 1, 9, 18, 9, 0);
        runIs(c, 9, 0, 0, 0, 1, 0, 0, 9, 0);
        runIs(c, 9, 0, 0, 200, 1, 0, 0, 9, 0);
        CoinLoops d = withLoop("x 9;while 0=0{" + "pay 20;".repeat(22) + "coin{}{};coin{}{}}");
        runIs(d, 9, 0, 0, 199, 0, 199, 199 * 440, 9, 398);
        runIs(d, 9, 0, 0, 200, 0, 200, 200 * 440, 9, 400);
        row("201 ROUNDS", what -> d.run(9, 0, 0, 201, what), -1, -1, -1, -1, -1);
        row("-1 ROUNDS", what -> d.run(9, 0, 0, -1, what), -1, -1, -1, -1, -1);
        due("STATUS 1", d.status(1), 10);
        sentence = "run: what a RUN draws is not kept";
        CoinLoops drawn = withLoop("x 3;while x=0{pay 1;coin{x=1}{x=2};coin{x=x+1}{}}");
        due("coins", drawn.run(0, 0, 12345, 9, 4), 2);
        drawn.price(0, 2);
        row("quarters", to -> drawn.leads(0, 0, to), 0, 1, 2, 1);
        sentence = "run: 3 the STATE then (as it ENDED by out: NONE)";
        CoinLoops e = withLoop("x 2;while x<2{if x=1{out}{};x=x+1}");
        runIs(e, 0, 0, 0, 1, 0, 1, 0, 1, 0);
        runIs(e, 0, 0, 0, 2, 1, 2, 0, -1, 0);
        due("not refused", e.status(1), 0);
    }

    private static void picksOfARun() {
        sentence = "run: picks (0 .. 7), for all ROUNDS, whatever is BOUND";
        CoinLoops c = withLoop("x 0;while 0=0{pick{}{pay 1};pick{}{pay 2};pick{}{pay 4}}");
        for (int bound = 0; bound < 3; bound++) {
            for (int picks = 0; picks < 8; picks++) {
                due("PAID by " + picks, c.run(0, picks, 0, 3, 2), 3 * picks);
            }
            c.bind(bound, bound % 2);
        }
        due("picks 8", c.run(0, 8, 0, 3, 2), -1);
        due("picks -1", c.run(0, -1, 0, 3, 2), -1);
        CoinLoops d = withLoop("x 0;while 0=0{pick{}{pay 1}}");
        row("picks that the TEXT has not", picks -> d.run(0, picks, 0, 1, 2), 0, 1, 0, 1, 0, 1, 0, 1, -1);
        due("no pick at all", withLoop("x 0;while 0=0{}").run(0, 7, 0, 1, 0), 0);
    }

    private static void seedsGoRound() {
        sentence = "the seed becomes itself times 1103515245 and 12345 (an int, going round), heads, if bit 16 of it is 0";
        CoinLoops c = withLoop("x 0;while 0=0{coin{pay 1}{}}");
        for (int seed : new int[] {0, 1, -1, 2, 65535, 65536, -65536, Integer.MAX_VALUE, Integer.MIN_VALUE, 123456789}) {
            long now = seed & 0xFFFFFFFFL;
            int heads = 0;
            for (int rounds = 1; rounds <= 200; rounds++) {
                now = Math.floorMod(now * 1103515245L + 12345L, 1L << 32);
                heads += now / 65536 % 2 == 0 ? 1 : 0;
                if (rounds < 9 || rounds > 198) {
                    due("heads by " + seed, c.run(0, 0, seed, rounds, 2), heads);
                    due("coins by " + seed, c.run(0, 0, seed, rounds, 4), rounds);
                }
            }
        }
    }

    // ---------------------------------------------------------------- bind and price

    private static void bindBounds() {
        sentence = "bind: NONE: no such pick, another number (1)";
        CoinLoops c = withLoop("x 0;while 0=0{pick{}{pay 1};pick{}{pay 2};pick{}{pay 4}}");
        due("the last pick", c.bind(2, 1), 4);
        for (int to : new int[] {-2, 2, 3, 255, Integer.MIN_VALUE, Integer.MAX_VALUE}) {
            due("bind(2, " + to + ")", c.bind(2, to), -1);
            due("bind(0, " + to + ")", c.bind(0, to), -1);
        }
        for (int pick : new int[] {-1, 3, 32, 33, Integer.MIN_VALUE, Integer.MAX_VALUE}) {
            due("bind(" + pick + ", 0)", c.bind(pick, 0), -1);
            due("bind(" + pick + ", NONE)", c.bind(pick, -1), -1);
        }
        due("STATUS 1", c.status(1), 24);
        due("what is BOUND stays", c.rule(8), 4);
        due("what is BOUND stays", choice(c, 0, 0, 0), 4);
        for (int picks = 0; picks < 3; picks++) {
            CoinLoops d = withLoop("x 0;while 0=0{" + "pick{}{};".repeat(picks) + "pay 1}");
            for (int pick = 0; pick < 4; pick++) {
                due("bind(" + pick + ") of " + picks, d.bind(pick, 0), pick < picks ? 1 : -1);
            }
        }
        sentence = "bind: how many PLANS then (-2: TOO MANY)";
        c = withLoop("x 6;while 0=0{pick{pay 1}{pay 2};if x=0{pick{}{pay 4}}{}}");
        due("free already", c.bind(0, -1), -2);
        due("BOUND", c.bind(0, 1), 2);
        due("BOUND again", c.bind(0, 1), 2);
        due("BOUND to the other", c.bind(0, 0), 2);
        due("the other one", c.bind(1, 1), 1);
        due("free again", c.bind(0, -1), -2);
        due("TOO MANY counts nowhere", c.status(0) + c.status(1) + c.status(2), 0);
        due("it is free all the same", c.rule(8), 2);
    }

    private static void priceBounds() {
        sentence = "price: The k-th pay of the TEXT (from 0 on) is another one (0 .. 20): what it was";
        CoinLoops c = withLoop("x 0;while 0=0{" + "pay 3;".repeat(23) + "pay 7}");
        for (int k = 0; k < 24; k++) {
            due("price(" + k + ", 20)", c.price(k, 20), k < 23 ? 3 : 7);
            due("price(" + k + ", 0)", c.price(k, 0), 20);
            due("price(" + k + ", 1)", c.price(k, 1), 0);
        }
        due("24 pays", c.most(7), 24);
        due("PAID", choice(c, 0, 0, 1), 4 * 24);
        sentence = "price: NONE: no such one, out of bounds (1)";
        for (int k : new int[] {24, 25, 100, Integer.MAX_VALUE, -1, Integer.MIN_VALUE}) {
            due("price(" + k + ", 5)", c.price(k, 5), -1);
        }
        for (int n : new int[] {21, 22, 99, Integer.MAX_VALUE, -1, -2, Integer.MIN_VALUE}) {
            due("price(0, " + n + ")", c.price(0, n), -1);
            due("price(23, " + n + ")", c.price(23, n), -1);
        }
        due("STATUS 1", c.status(1), 20);
        due("what is PAID stays", choice(c, 0, 0, 1), 4 * 24);
        due("no pay at all", withLoop("x 0;while 0=0{}").price(0, 0), -1);
        due("in the order of the TEXT", withLoop("x 0;while 0=0{coin{pay 4}{pay 5};pay 6}").price(1, 0), 5);
    }

    // ---------------------------------------------------------------- most

    private static void mostOfSeveral() {
        sentence = "most: 1 the STATE with most CHOICES (of several the lowest)";
        due("alike", withLoop("x 3;while x>1{pick{}{pay 1}}").most(1), 2);
        due("more in the last", withLoop("x 9;while 0=0{pick{}{pay 1};if x=9{pick{}{pay 2}}{}}").most(1), 9);
        due("one CHOICE each", withLoop("x 9;while x>3{}").most(1), 4);
        sentence = "most: 2 that from which MOST is PAID (without end the most; likewise)";
        due("the last", withLoop("x 9;while x>0{pay 1;x=x-1}").most(2), 9);
        due("alike", withLoop("x 9;while x>2{pay 1;out}").most(2), 3);
        due("without end", withLoop("x 3;while x>0{if x=3{pay 20;out}{if x=2{pay 1}{out}}}").most(2), 2);
        due("without end, of several the lowest", withLoop("x 3;while x>0{if x=1{out}{pay 1}}").most(2), 2);
        due("nothing is PAID", withLoop("x 3;while x>1{out}").most(2), 2);
        due("by some PLAN", withLoop("x 3;while 0=0{pick{if x=2{pay 2}{pay 1}}{pay 1};out}").most(2), 2);
        sentence = "most: 3 that from which the ODDS LEAST are least (likewise)";
        due("the last", withLoop("x 3;while 0=0{if x=3{}{out}}").most(3), 3);
        due("alike", withLoop("x 3;while x>1{}").most(3), 2);
        due("all 1", withLoop("x 3;while x>1{out}").most(3), 2);
        due("by some PLAN", withLoop("x 3;while 0=0{pick{out}{if x=2{}{out}}}").most(3), 2);
        due("a third before a half", withLoop("x 4;while x>0 and x<4{if x=3{}{if x=1{coin{x=0}{x=3}}{coin{coin{x=0}{}}{x=3}}}}").most(3), 3);
        sentence = "most: 4 STATES from which it ENDS surely by each PLAN, 5 by some PLAN";
        CoinLoops c = withLoop("x 9;while x>0{if x=1{}{if x=2{pick{x=0}{}}{x=0}}}");
        due("by each", c.most(4), 8);
        due("by some", c.most(5), 9);
        CoinLoops d = withLoop("x 9;while 0=0{}");
        row("all are IN for ever", d::most, 10, 0, 0, 0, 0, 0, 1, 0, 0);
    }

    private static void mostReached() {
        sentence = "most: 6 STATES that can be come to from STATE 0 (it, too), by whatever is picked (BOUND picks as BOUND)";
        due("it is OUT", withLoop("x 9;while x>0{x=x-1}").most(6), 1);
        due("all of them", withLoop("x 9;while x<9{x=x+1}").most(6), 10);
        due("one that is OUT ends it", withLoop("x 9;while x<4 or x>4{x=x+1}").most(6), 5);
        due("back and forth", withLoop("x 9;while 0=0{if x=0{x=9}{if x=9{x=8}{x=x-2}}}").most(6), 6);
        due("out leads to none", withLoop("x 9;while 0=0{x=x+1;out}").most(6), 1);
        due("by one quarter", withLoop("x 9;while 0=0{coin{coin{x=x+3}{}}{}}").most(6), 4);
        CoinLoops c = withLoop("x 9;while 0=0{pick{x=x+1}{x=x+5}}");
        due("by whatever is picked, TOO MANY PLANS or not", c.most(6), 10);
        c.bind(0, 1);
        due("BOUND", c.most(6), 3);
        due("by the second BODY", withLoop("x 9;while 0=0{pick{}{x=x+1}}").most(6), 10);
        due("by the last of eight", withLoop("x 9;while 0=0{pick{}{pick{}{pick{}{x=x+1}}}}").most(6), 10);
    }

    private static void mostWithNoneIn() {
        sentence = "most: NONE: none is IN";
        CoinLoops c = withLoop("x 9;while 0=1{pay 1;coin{pay 2}{};coin{}{}}");
        row("most", c::most, 0, -1, -1, -1, 10, 10, 1, 2, 2);
        due("counts nowhere", c.status(0) + c.status(1) + c.status(2), 0);
    }

    // ---------------------------------------------------------------- what is refused, and by which STATUS

    private interface Call {
        long on(CoinLoops c, int... n);
    }

    /** A method of the face: what it answers if refused, and the bounds of its numbers for WALK. */
    private record Face(String name, long refused, int[] low, int[] high, Call call) {
    }

    private static int[] of(int... numbers) {
        return numbers;
    }

    /** For the LOOP of WALK with a GUESS: 0 is OUT, 1 and 2 have two CHOICES; a pick, two pays. */
    private static final Face[] FACES = {
        new Face("rule", -2, of(0), of(8), (c, n) -> c.rule(n[0])),
        new Face("choices", -1, of(0), of(2), (c, n) -> c.choices(n[0])),
        new Face("choice", THROWS, of(1, 0, 0), of(2, 1, 2), (c, n) -> choice(c, n[0], n[1], n[2])),
        new Face("leads", -1, of(1, 0, 0), of(2, 1, 2), (c, n) -> c.leads(n[0], n[1], n[2])),
        new Face("paid least", -1, of(0, 0), of(2, 1), (c, n) -> c.paid(n[0], false, n[1])),
        new Face("paid most", -1, of(0, 0), of(2, 1), (c, n) -> c.paid(n[0], true, n[1])),
        new Face("ends least", -1, of(0, 0), of(2, 1), (c, n) -> c.ends(n[0], false, n[1])),
        new Face("ends most", -1, of(0, 0), of(2, 1), (c, n) -> c.ends(n[0], true, n[1])),
        new Face("unsure", -1, of(), of(), (c, n) -> c.unsure()),
        new Face("plan least", -1, of(0, 0), of(2, 2), (c, n) -> c.plan(n[0], false, n[1])),
        new Face("plan most", -1, of(0, 0), of(2, 2), (c, n) -> c.plan(n[0], true, n[1])),
        new Face("within least", -1, of(0, 0, 0), of(2, 20, 1), (c, n) -> c.within(n[0], n[1], false, n[2])),
        new Face("within most", -1, of(0, 0, 0), of(2, 20, 1), (c, n) -> c.within(n[0], n[1], true, n[2])),
        new Face("half", -1, of(0), of(2), (c, n) -> c.half(n[0])),
        new Face("guessed", NOT_TOLD, of(0, 0), of(2, 1), (c, n) -> c.guessed(n[0], n[1])),
        new Face("ahead", NOT_TOLD, of(1, 0, 0), of(2, 1, 1), (c, n) -> c.ahead(n[0], n[1], n[2])),
        new Face("refutes", -2, of(0), of(4), (c, n) -> c.refutes(n[0])),
        new Face("best", NOT_TOLD, of(1, 0), of(2, 7), (c, n) -> c.best(n[0], n[1])),
        new Face("run", -1, of(0, 0, 0, 0), of(2, 7, 200, 4), (c, n) -> c.run(n[0], n[1], 5, n[2], n[3])),
        new Face("bind", -1, of(0, -1), of(0, 1), (c, n) -> c.bind(n[0], n[1])),
        new Face("price", -1, of(0, 0), of(1, 20), (c, n) -> c.price(n[0], n[1])),
        new Face("most", -1, of(0), of(8), (c, n) -> c.most(n[0])),
    };

    /** Whether just this STATUS, or none, has gone up by 1. */
    private static long counted(CoinLoops c, String what, Call call, int ground, int... n) {
        int[] before = {c.status(0), c.status(1), c.status(2)};
        long got = call.on(c, n);
        for (int i = 0; i < 3; i++) {
            due(what + ": STATUS " + i, c.status(i) - before[i], i == ground ? 1 : 0);
        }
        return got;
    }

    private static String told(Face face, int[] n) {
        return face.name() + java.util.Arrays.toString(n);
    }

    private static void refusedBy(Face face, CoinLoops c, int ground, int... n) {
        due(told(face, n), counted(c, told(face, n), face.call(), ground, n), face.refused());
    }

    private static int[] wrongNumbers(int low, int high) {
        return new int[] {low - 1, high + 1, high + 1000, low - 1000, Integer.MIN_VALUE, Integer.MAX_VALUE};
    }

    private static CoinLoops walk() {
        return withGuess(withLoop(WALK), "2x");
    }

    private static void refusedWithoutALoop() {
        sentence = "STATUS: 0 no LOOP; of several the first";
        for (Face face : FACES) {
            CoinLoops bare = new CoinLoops();
            CoinLoops guessing = withGuess(new CoinLoops(), "2x");
            CoinLoops faulty = tape("x 2;while x>0{");
            faulty.loop();
            for (CoinLoops c : new CoinLoops[] {bare, guessing, faulty}) {
                refusedBy(face, c, 0, face.low());
                refusedBy(face, c, 0, face.high());
                for (int i = 0; i < face.low().length; i++) {
                    int[] n = face.low().clone();
                    n[i] = face.high()[i] + 1;
                    refusedBy(face, c, 0, n);
                }
            }
        }
    }

    private static void refusedBeyondBounds() {
        sentence = "STATUS: 1 no such STATE, CHOICE, PIECE, number out of bounds";
        for (Face face : FACES) {
            CoinLoops c = walk();
            int[] all = new int[face.low().length];
            for (int i = 0; i < all.length; i++) {
                for (int bad : wrongNumbers(face.low()[i], face.high()[i])) {
                    int[] n = face.low().clone();
                    n[i] = bad;
                    refusedBy(face, c, 1, n);
                }
                all[i] = face.high()[i] + 1;
            }
            if (all.length > 0) {
                refusedBy(face, c, 1, all);
            }
            row("the LOOP stays", c::rule, 2, 0, 3, 6, 6, 1, 4, 1, 0);
        }
    }

    private static void acceptedAtBounds() {
        sentence = "numbers just within their bounds are not refused";
        for (Face face : FACES) {
            CoinLoops c = walk();
            for (int bits = 0; bits < 1 << face.low().length; bits++) {
                int[] n = face.low().clone();
                for (int i = 0; i < n.length; i++) {
                    n[i] = ((bits >> i) & 1) == 0 ? face.low()[i] : face.high()[i];
                }
                counted(c, told(face, n), face.call(), UNCOUNTED, n);
            }
        }
    }

    private static void refusedWithoutAGuess() {
        sentence = "no LOOP, no GUESS (STATUS 0)";
        for (Face face : FACES) {
            boolean needs = face.name().equals("guessed") || face.name().equals("ahead") || face.name().equals("refutes");
            CoinLoops c = withLoop(WALK);
            if (!needs) {
                counted(c, told(face, face.low()), face.call(), UNCOUNTED, face.low());
                continue;
            }
            refusedBy(face, c, 0, face.low());
            refusedBy(face, c, 0, face.high());
            int[] n = face.low().clone();
            n[0] = 99;
            refusedBy(face, c, 0, n);
        }
    }

    private static void refusedByTooManyPlans() {
        sentence = "STATUS: 2 TOO MANY PLANS; of several the first";
        CoinLoops c = withGuess(withLoop(MANY), "2x");
        for (Face face : FACES) {
            String name = face.name();
            boolean needs = name.startsWith("paid") || name.startsWith("ends") || name.startsWith("plan") || name.equals("unsure");
            if (needs) {
                refusedBy(face, c, 2, face.low());
                refusedBy(face, c, 2, face.high());
            } else {
                counted(c, told(face, face.low()), face.call(), UNCOUNTED, face.low());
                c.bind(0, -1);
                c.price(0, 1);
            }
            for (int i = 0; needs && i < face.low().length; i++) {
                for (int bad : new int[] {-1, 7, Integer.MIN_VALUE, Integer.MAX_VALUE}) {
                    int[] n = face.low().clone();
                    n[i] = bad;
                    refusedBy(face, c, 1, n);
                }
            }
        }
        sentence = "most: TOO MANY PLANS (2; of 2 to 5)";
        for (int what = 0; what <= 8; what++) {
            boolean needs = what >= 2 && what <= 5;
            long got = counted(c, "most(" + what + ")", (o, n) -> o.most(n[0]), needs ? 2 : UNCOUNTED, what);
            due("most(" + what + ")", got, new long[] {7, 0, -1, -1, -1, -1, 1, 2, 0}[what]);
        }
        due("most(9)", counted(c, "most(9)", (o, n) -> o.most(9), 1), -1);
        sentence = "rule: 6 PLANS (-2: TOO MANY)";
        due("rule(6)", counted(c, "rule(6)", (o, n) -> o.rule(6), UNCOUNTED), -2);
        due("bind(0, NONE)", counted(c, "bind(0, NONE)", (o, n) -> o.bind(0, -1), UNCOUNTED), -2);
    }

    private static void refusedWhereItIsOut() {
        sentence = "a STATE that is OUT (STATUS 1); it has no CHOICES";
        CoinLoops c = walk();
        due("best(0, 0)", counted(c, "best", (o, n) -> o.best(0, 0), 1), NOT_TOLD);
        due("choice(0, 0, 0)", counted(c, "choice", (o, n) -> choice(o, 0, 0, 0), 1), THROWS);
        due("leads(0, 0, 0)", counted(c, "leads", (o, n) -> o.leads(0, 0, 0), 1), -1);
        due("ahead(0, 0, 0)", counted(c, "ahead", (o, n) -> o.ahead(0, 0, 0), 1), NOT_TOLD);
        due("choices(0)", counted(c, "choices", (o, n) -> o.choices(0), UNCOUNTED), 0);
        due("guessed(0, 0)", counted(c, "guessed", (o, n) -> o.guessed(0, 0), UNCOUNTED), 0);
        due("plan(0, true, 0)", counted(c, "plan", (o, n) -> o.plan(0, true, 0), UNCOUNTED), -1);
        due("plan(1, true, 0)", counted(c, "plan", (o, n) -> o.plan(1, true, 0), UNCOUNTED), -1);
        due("half(0)", counted(c, "half", (o, n) -> o.half(0), UNCOUNTED), 0);
        due("run(0, ..)", counted(c, "run", (o, n) -> o.run(0, 0, 0, 0, 0), UNCOUNTED), 1);
    }

    private static void countNowhere() {
        sentence = "feed(), end(), fault(), loop(), guess(), status(), count() count nowhere";
        for (CoinLoops c : new CoinLoops[] {new CoinLoops(), walk(), withLoop(MANY)}) {
            Call[] calls = {
                (o, n) -> o.end(-1) ? 1 : 0, (o, n) -> o.end(501) ? 1 : 0, (o, n) -> o.fault(2), (o, n) -> o.fault(-1),
                (o, n) -> o.loop(), (o, n) -> o.guess(), (o, n) -> o.status(3), (o, n) -> o.status(-1), (o, n) -> o.count(1),
                (o, n) -> o.count(-1), (o, n) -> o.fault(0), (o, n) -> o.feed(-1, -1, -1, -1, -1), (o, n) -> o.loop(), (o, n) -> o.guess(),
            };
            for (int i = 0; i < calls.length; i++) {
                counted(c, "call " + i, calls[i], UNCOUNTED);
            }
            tape(c, " ".repeat(500));
            due("feed()", counted(c, "feed()", (o, n) -> o.feed(0, 0, 0, 0, 1), UNCOUNTED), -1);
        }
        sentence = "what is told as none is not refused";
        CoinLoops c = withGuess(withLoop(TRAP), "9");
        due("best: no CORNER", counted(c, "best", (o, n) -> o.best(0, 0), UNCOUNTED), NOT_TOLD);
        due("half: not so few", counted(c, "half", (o, n) -> o.half(0), UNCOUNTED), -1);
        due("paid: without end", counted(c, "paid", (o, n) -> o.paid(0, true, 0), UNCOUNTED), -2);
        due("refutes: none", counted(c, "refutes", (o, n) -> o.refutes(3), UNCOUNTED), -1);
        due("unsure: none", counted(withLoop(WALK), "unsure", (o, n) -> o.unsure(), UNCOUNTED), -1);
        due("run: by out", counted(withLoop("x 0;while 0=0{out}"), "run", (o, n) -> o.run(0, 0, 0, 1, 3), UNCOUNTED), -1);
    }

    private static void statusBounds() {
        sentence = "status: NONE: no such what";
        CoinLoops c = new CoinLoops();
        row("a new object", c::status, 0, 0, 0, -1);
        for (int what : wrongNumbers(0, 2)) {
            due("status(" + what + ")", c.status(what), -1);
        }
        for (int i = 1; i <= 300; i++) {
            c.unsure();
        }
        row("300 times no LOOP", c::status, 300, 0, 0);
    }

    private static void countBounds() {
        sentence = "count: 0 bytes of the TAPE. NONE for others";
        CoinLoops c = new CoinLoops();
        due("a new object", c.count(0), 0);
        tape(c, "x".repeat(500));
        due("a full TAPE", c.count(0), 500);
        for (int what : wrongNumbers(0, 0)) {
            due("count(" + what + ")", c.count(what), -1);
        }
    }
}
