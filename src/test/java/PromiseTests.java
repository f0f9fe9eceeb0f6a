import java.util.NoSuchElementException;

/** For each promise of the document ordinary inputs, edges and wrong inputs, worked out by hand. */
public final class PromiseTests {
    private static final int NOT_TOLD = -1000001;
    private static final int THROWS = -99;
    private static int wrong = 0;
    private static int promise = 0;

    public static void main(String[] args) {
        newObject();
        feed();
        end();
        faultOfLoops();
        faultLimits();
        faultOfGuesses();
        loop();
        guess();
        rule();
        choicesAndTheirParts();
        choicesAlike();
        paid();
        ends();
        unsure();
        plan();
        within();
        half();
        guessed();
        ahead();
        refutes();
        best();
        run();
        bind();
        price();
        most();
        status();
        count();
        tooManyPlans();
        semantics();
        deepest();
        longest();
        extremes();
        System.out.println(wrong == 0 ? "all promises hold" : wrong + " answers are not as due");
        if (wrong != 0) {
            System.exit(1);
        }
    }

    // ---------------------------------------------------------------- helpers

    private static void due(String what, long got, long want) {
        if (got != want) {
            wrong++;
            System.out.println("promise " + promise + ": " + what + " answered " + got + ", due is " + want);
        }
    }

    private static void due(String what, boolean got, boolean want) {
        due(what, got ? 1 : 0, want ? 1 : 0);
    }

    private static CoinLoops tape(CoinLoops c, String text) {
        c.end(0);
        for (int at = 0; at < text.length(); at += 20) {
            int[] five = new int[5];
            for (int i = 0; i < 20; i++) {
                five[i / 4] = five[i / 4] << 8 | (at + i < text.length() ? text.charAt(at + i) : 0);
            }
            c.feed(five[0], five[1], five[2], five[3], five[4]);
        }
        due("bytes of " + text, c.count(0), text.length());
        return c;
    }

    private static CoinLoops withLoop(String text) {
        CoinLoops c = tape(new CoinLoops(), text);
        due("fault of " + text, c.fault(0), -1);
        if (c.loop() < 1) {
            due("loop of " + text, -1, 1);
        }
        return c;
    }

    private static CoinLoops withGuess(CoinLoops c, String text) {
        tape(c, text);
        if (c.guess() < 1) {
            due("guess of " + text, -1, 1);
        }
        return c;
    }

    /** The text has ^ where its FAULT is; none: it has none. */
    private static void faultAt(int what, String marked) {
        int at = marked.indexOf('^');
        String text = marked.replace("^", "");
        due("fault(" + what + ") of " + marked, tape(new CoinLoops(), text).fault(what), at);
    }

    private static void faultInBody(String marked) {
        faultAt(0, "x 2;while x>0{" + marked + "}");
    }

    private static int choice(CoinLoops c, int state, int choice, int what) {
        try {
            return c.choice(state, choice, what);
        } catch (NoSuchElementException e) {
            return THROWS;
        }
    }

    private static void fraction(String what, long up, long low, long wantUp, long wantLow) {
        due(what + " (upper)", up, wantUp);
        due(what + " (lower)", low, wantLow);
    }

    private static void paidIs(CoinLoops c, int state, boolean most, long up, long low) {
        fraction("paid(" + state + ", " + most + ")", c.paid(state, most, 0), c.paid(state, most, 1), up, low);
    }

    private static void endsIs(CoinLoops c, int state, boolean most, long up, long low) {
        fraction("ends(" + state + ", " + most + ")", c.ends(state, most, 0), c.ends(state, most, 1), up, low);
    }

    private static void bestIs(CoinLoops c, int state, long... eight) {
        for (int i = 0; i < 8; i++) {
            due("best(" + state + ", " + i + ")", c.best(state, i), eight[i]);
        }
    }

    // ---------------------------------------------------------------- 1 to 6: the TAPE and its TEXTS

    private static void newObject() {
        promise = 1;
        CoinLoops c = new CoinLoops();
        due("count(0)", c.count(0), 0);
        due("status(0)", c.status(0), 0);
        due("status(1)", c.status(1), 0);
        due("status(2)", c.status(2), 0);
        due("rule(2)", c.rule(2), -2);
        due("choices(0)", c.choices(0), -1);
        due("guessed(0, 0)", c.guessed(0, 0), NOT_TOLD);
        due("most(0)", c.most(0), -1);
        due("loop()", c.loop(), -1);
        due("guess()", c.guess(), -1);
    }

    private static void feed() {
        promise = 2;
        CoinLoops c = new CoinLoops();
        due("feed of nothing", c.feed(0, 0, 0, 0, 0), 0);
        // "x 0;" "while" with bytes of 0 in between
        due("feed with noughts", c.feed(0x78002030, 0x003B0077, 0x68696C65, 0x20300000, 0x00003D30), 13);
        due("feed of {}", c.feed(0, 0, 0, 0, 0x7B7D), 15);
        due("fault", c.fault(0), -1);
        due("loop", c.loop(), 1);
        // the highest byte first, bytes above 127 too
        due("feed of bytes above 127", c.feed(0xFF000000, 0, 0, 0, 0), 1);
        due("fault at such a byte", c.fault(0), 0);
        c.end(0);
        for (int i = 1; i <= 24; i++) {
            due("feed of 20", c.feed(0x20202020, 0x20202020, 0x20202020, 0x20202020, 0x20202020), 20 * i);
        }
        due("feed to 499", c.feed(0x20202020, 0x20202020, 0x20202020, 0x20202020, 0x202020), 499);
        due("two more than 499", c.feed(0x20, 0x20, 0, 0, 0), -1);
        due("nothing of it came", c.count(0), 499);
        due("the 500th", c.feed(0, 0, 0, 0, 0x20), 500);
        due("the 501st", c.feed(0, 0, 0, 0, 0x20), -1);
        due("nothing more", c.feed(0, 0, 0, 0, 0), 500);
        due("fault of 500 blanks", c.fault(0), 500);
    }

    private static void end() {
        promise = 3;
        CoinLoops c = tape(new CoinLoops(), "3x+1 by 4");
        due("end(-1)", c.end(-1), false);
        due("end(10)", c.end(10), false);
        due("it stays", c.count(0), 9);
        due("end(9)", c.end(9), true);
        due("it stays", c.count(0), 9);
        due("end(4)", c.end(4), true);
        due("four bytes", c.count(0), 4);
        due("end(5)", c.end(5), false);
        due("guess of 3x+1", c.guess(), 1);
        due("end(1) of none", c.end(1), false);
        due("end(0) of none", c.end(0), true);
        due("end counts nowhere", c.status(1), 0);
    }

    private static void faultOfLoops() {
        promise = 4;
        for (String text : new String[] {
            "^", "   ^", "x 2;while x>0{}", "x2;while x>0{}", "  x 2 ; y 1 ; while x > 0 { }  ", "x 02;while x>0{}",
            "^y 2;while x>0{}", "^xx 2;while x>0{}", "^2;", "x ^10;while x>0{}", "x ^002;while x>0{}", "x ^x;", "x 2^,",
            "x 9;while x>0{}", "x 9;y 0;while x>0{}", "x 9;y ^1;while x>0{}", "x 4;y 1;while x>0{}", "x 4;y ^2;while x>0{}",
            "x 0;y 9;while x>0{}", "x 0;y ^10;while x>0{}", "x 1;y 4;while x>0{}", "x 1;y ^5;", "x 2;y ^3;", "x 2;y 2;while x>0{}",
            "x 5;y 0;while x>0{}", "x 5;y ^1;", "x 2^", "x 2;^", "x^", "x 2;y^", "x 2;y 1^", "x 2;y 1;^y 1;while",
            "x 2;^whilex>0{}", "x 2;^whil x>0{}", "x 2;^while2 x>0{}".replace("^while2 x", "while2 ^xy"), "x 2;while^", "x 2;while x^",
            "x 2;while x^{}", "x 2;while x>^{}", "x 2;while x>0^", "x 2;while x>0 and^", "x 2;while x>0 and ^and x>1{}",
            "x 2;while x>0 and x<2 or y=0 and x=1{}", "x 2;while x>0^>1{}", "x 2;while x+^+1>0{}", "x 2;while ^-x>0{}",
            "x 2;while 2x>0{}", "x 2;while 2 x > 0 {}", "x 2;while x^2>0{}", "x 2;while 2^xy>0{}", "x 2;while 2x ^y>0{}",
            "x 2;while 1 ^1>0{}", "x 2;while x>^100{}", "x 2;while x>99{}", "x 2;while x>^099{}", "x 2;while x>0or x<1{}",
            "x 2;while x>0 ^by 2{}", "x 2;while x^?0{}", "x 2;while x>0{}^;", "x 2;while x>0{}^}", "x 2;while x>0{} ^x", "^X 2;",
            "x^\t2;", "x 2;while x>0{^\n}", "x 2;while x>0{^" + (char) 233 + "}", "x 2;while (x>0){}".replace("(", "^("),
        }) {
            faultAt(0, text);
        }
        for (String body : new String[] {
            "", "x=1", "x = x + 1 ; y = 2 y - 3", "^;", "x=1;^", "x=1;^;x=1", "x=1x^=2", "x=1 ^pay 2", "x^>1", "x=^", "x=^pay", "^z=1",
            "pay 0", "pay 20", "pay 020".replace("0", "^0").replace("2^0", "20"), "pay ^21", "pay ^x", "pay ^", "pay 3^x", "pay20", "^payx 3",
            "out", "out;out", "out^{", "^outt", "coin{}{}", "coin{}^", "coin^;", "coin{}{}^{}", "coin{x=1}{pay 3;out}", "coin{x=1;^}{}",
            "pick{}{}", "pick{}^", "if x>0{}{}", "if x>0{}^", "if ^{}{}", "if x^{}{}", "if x>0 or y<1 and x=y{}{}", "^while x>0{}{}", "^and",
            "y=1", "x=99x-99y+99", "x=^100x",
        }) {
            faultInBody(body);
        }
        CoinLoops c = tape(new CoinLoops(), "3");
        due("fault(2)", c.fault(2), -2);
        due("fault(-1)", c.fault(-1), -2);
        due("the tape stays", c.count(0), 1);
        due("fault counts nowhere", c.status(0) + c.status(1), 0);
    }

    private static void faultLimits() {
        promise = 4;
        faultInBody("x=1;".repeat(23) + "x=1");
        faultInBody("x=1;".repeat(24) + "^x=1");
        faultInBody("x=1;".repeat(24) + "^");
        faultInBody("if x>0{" + "x=1;".repeat(11) + "x=1}{" + "x=1;".repeat(10) + "x=1}");
        faultInBody("if x>0{" + "x=1;".repeat(11) + "x=1}{" + "x=1;".repeat(11) + "^x=1}");
        faultInBody("pick{}{};pick{}{};pick{}{}");
        faultInBody("pick{}{};pick{}{};pick{}{};^pick{}{}");
        faultInBody("pick{pick{}{pick{}{}}}{^pick{}{}}");
        faultInBody("coin{}{};coin{}{}");
        faultInBody("coin{}{};coin{}{};^coin{}{}");
        faultInBody("coin{coin{}{}}{coin{}{}}");
        faultInBody("coin{coin{^coin{}{}}{}}{}");
        faultInBody("coin{coin{}{}}{};^coin{}{}");
        faultInBody("coin{}{coin{}{}};^coin{}{}");
        faultInBody("pick{coin{}{}}{coin{}{}};coin{}{}");
        faultInBody("pick{coin{}{}}{coin{}{}};if x>0{coin{}{}}{};^coin{}{}");
        faultInBody("if 0=1{coin{}{};coin{}{}}{};^coin{}{}");
        faultInBody("if 0=1{}{coin{}{};coin{}{}};if x>0{^coin{}{}}{}");
        faultInBody("out;coin{}{};coin{}{};^coin{}{}");
        faultInBody("if 0=0{".repeat(5) + "}{}".repeat(5));
        faultInBody("if 0=0{".repeat(5) + "coin^{}{}" + "}{}".repeat(5));
        faultInBody("if 0=0{".repeat(5) + "}{if 0=0^{}{}}" + "}{}".repeat(4));
        faultInBody("pick{}{pick{}{coin{}{coin{}{if x>0{}{if x>0^{}{}}}}}}");
    }

    private static void faultOfGuesses() {
        promise = 4;
        for (String text : new String[] {
            "^", "  ^", "3", "x", "3x + 2y - 1 by 12", "3 by 1", "3 by ^13", "3 by ^0", "3 by ^012", "3 by^", "3 by ^x", "3 ^bye 2", "3 by 2^x",
            "x<1^", "x<1?^", "x<1?3^", "x<1?3;^", "x<1?3;4", "3^;4", "x<1^;4", "x<1?3 by 2;4 by 3", "x<1?3 by 2;x>2?1;4 by 3", "x<1?x^<2;3",
            "3^?4", "x<1 or y>2 and x=1?0;1", "x<1 ^by 2?3;4", "^-3", "3-^-3", "3^{", "^pay", "x<1?^out;3", "3;".replace(";", "^;"), "x<1?3;;4".replace(";;", ";^;"),
            "x=0?1;".repeat(7) + "1", "x=0?1;".repeat(8) + "^1", "x=0?1;".repeat(8) + "^x=0?1;1", "x=0?1;".repeat(8) + "^", "x=0?1;".repeat(7) + "x=0?1^",
        }) {
            faultAt(1, text);
        }
    }

    private static void loop() {
        promise = 5;
        CoinLoops c = new CoinLoops();
        due("loop() of nothing", c.loop(), -1);
        tape(c, "x 2;y 2;while x>0{pick{pay 1}{pay 2};x=x-1}");
        due("loop()", c.loop(), 9);
        due("the tape is empty", c.count(0), 0);
        due("loop() of an empty tape", c.loop(), -1);
        due("all stays", c.rule(2), 9);
        withGuess(c, "5");
        c.bind(0, 1);
        c.price(0, 7);
        tape(c, "x 2;while x>0{pay 1;}");
        due("loop() with a FAULT", c.loop(), -1);
        due("the tape stays", c.count(0), 21);
        due("the LOOP stays", c.rule(2), 9);
        due("the GUESS stays", c.rule(7), 1);
        due("the pick stays BOUND", c.rule(8), 1);
        due("the price stays", c.price(0, 7), 7);
        tape(c, "x 0;while x>0{pick{pay 1}{pay 2};x=x-1}");
        due("loop() anew", c.loop(), 1);
        due("no GUESS", c.rule(7), 0);
        due("no pick BOUND", c.rule(8), 0);
        due("price as told", c.price(0, 3), 1);
    }

    private static void guess() {
        promise = 6;
        CoinLoops c = new CoinLoops();
        tape(c, "x<1?1;x<2?2;3");
        due("guess() without a LOOP", c.guess(), 3);
        due("the tape is empty", c.count(0), 0);
        due("guess() of nothing", c.guess(), -1);
        tape(c, "x 1;while x<2{pay 1}");
        due("loop()", c.loop(), 2);
        due("loop() ends the GUESS", c.rule(7), 0);
        withGuess(c, "3x+1");
        tape(c, "3x+");
        due("guess() with a FAULT", c.guess(), -1);
        due("the tape stays", c.count(0), 3);
        due("the GUESS stays", c.guessed(1, 0), 4);
        withGuess(c, "x=1?9;7");
        due("another GUESS", c.guessed(1, 0), 9);
        due("its PIECES", c.rule(7), 2);
        due("guess of eight", tape(c, "x=0?1;".repeat(7) + "1").guess(), 8);
    }

    // ---------------------------------------------------------------- 7 to 10: rules and CHOICES

    private static void rule() {
        promise = 7;
        CoinLoops c = withLoop("x 2;y 1;while x>0 and y<1 or x=2{pick{x=x-1}{pick{y=1}{out}};coin{pay 1}{}}");
        int[] want = {2, 1, 6, 0b100110, 7, 2, 27, 0, 0};
        for (int i = 0; i < 9; i++) {
            due("rule(" + i + ")", c.rule(i), want[i]);
        }
        due("rule(9)", c.rule(9), -2);
        due("rule(-1)", c.rule(-1), -2);
        due("status(1)", c.status(1), 2);
        c.bind(1, 0);
        due("rule(6) with a BOUND pick", c.rule(6), 8);
        due("rule(8)", c.rule(8), 2);
        c.bind(0, 1);
        due("rule(8)", c.rule(8), 3);
        due("rule(6)", c.rule(6), 1);
        due("rule(7)", withGuess(c, "x=0?1;2").rule(7), 2);
        due("rule(1) without y", withLoop("x 3;while x>9{}").rule(1), 0);
        due("rule(6) if none is IN", withLoop("x 3;while x>9{pick{}{x=1}}").rule(6), 1);
        due("rule(0) without a LOOP", new CoinLoops().rule(0), -2);
    }

    private static void choicesAndTheirParts() {
        CoinLoops c = withLoop("x 2;y 1;while x<2{pick{x=x+1}{coin{coin{out}{y=1}}{pay 3}};if y=1{pay 2}{}}");
        promise = 8;
        int[] sizes = {2, 2, 0, 2, 2, 0};
        for (int i = 0; i < 6; i++) {
            due("choices(" + i + ")", c.choices(i), sizes[i]);
        }
        due("choices(6)", c.choices(6), -1);
        due("choices(-1)", c.choices(-1), -1);
        due("status(1)", c.status(1), 2);
        promise = 9;
        int[][] rows = {{0, 0, 0, 0, 0}, {0, 1, 1, 8, 1}, {3, 0, 0, 8, 0}, {3, 1, 1, 12, 1}};
        for (int[] row : rows) {
            for (int what = 0; what < 3; what++) {
                due("choice(" + row[0] + ", " + row[1] + ", " + what + ")", choice(c, row[0], row[1], what), row[2 + what]);
            }
        }
        due("choice of an OUT state", choice(c, 2, 0, 0), THROWS);
        due("choice(0, 2, 0)", choice(c, 0, 2, 0), THROWS);
        due("choice(0, -1, 0)", choice(c, 0, -1, 0), THROWS);
        due("choice(6, 0, 0)", choice(c, 6, 0, 0), THROWS);
        due("choice(-1, 0, 0)", choice(c, -1, 0, 0), THROWS);
        due("choice(0, 0, 3)", choice(c, 0, 0, 3), THROWS);
        due("choice(0, 0, -1)", choice(c, 0, 0, -1), THROWS);
        due("status(1)", c.status(1), 9);
        due("choice without a LOOP", choice(new CoinLoops(), 0, 0, 0), THROWS);
        promise = 10;
        int[][] ways = {{0, 4, 0, 0, 0, 0}, {2, 0, 0, 1, 0, 0}};
        for (int choice = 0; choice < 2; choice++) {
            for (int to = 0; to < 6; to++) {
                due("leads(0, " + choice + ", " + to + ")", c.leads(0, choice, to), ways[choice][to]);
            }
        }
        due("leads(3, 1, 3)", c.leads(3, 1, 3), 3);
        due("leads to an OUT state", c.leads(1, 0, 2), 4);
        due("leads(0, 0, 6)", c.leads(0, 0, 6), -1);
        due("leads(0, 0, -1)", c.leads(0, 0, -1), -1);
        due("leads(0, 2, 0)", c.leads(0, 2, 0), -1);
        due("leads(2, 0, 0)", c.leads(2, 0, 0), -1);
        due("leads(9, 0, 0)", c.leads(9, 0, 0), -1);
        due("status(1)", c.status(1), 14);
        due("leads without a LOOP", new CoinLoops().leads(0, 0, 0), -1);
    }

    private static void choicesAlike() {
        promise = 8;
        // picks in the order of the TEXT: the inner one is the second
        CoinLoops c = withLoop("x 3;while x=0{pick{pick{x=1}{x=2}}{x=3};pick{pay 1}{}}");
        int[] numbers = {0, 1, 2, 4, 5, 6};
        due("choices(0)", c.choices(0), 6);
        for (int i = 0; i < 6; i++) {
            due("picks of " + i, choice(c, 0, i, 0), numbers[i]);
        }
        // unlike ways, but alike in the mean and in where they lead
        c = withLoop("x 2;while x=0{pick{coin{x=1;pay 2}{x=2}}{coin{x=1}{x=2;pay 2}}}");
        due("alike by quarters", c.choices(0), 1);
        // another OUT state is another ROUND, out is another than OUT
        c = withLoop("x 2;while x=0{pick{x=1}{pick{x=2}{out}}}");
        due("unlike ends", c.choices(0), 3);
        // the same pick is come to once: the same way in both BODIES of a coin
        c = withLoop("x 1;while x=0{coin{}{};pick{x=1}{}}");
        due("behind a coin", c.choices(0), 2);
        due("leads", c.leads(0, 0, 1), 4);
        // a BOUND pick that isn't come to still tells its bit
        c = withLoop("x 1;while 0=0{if x=0{pick{pay 1}{pay 2}}{pay 3}}");
        due("choices(1)", c.choices(1), 1);
        due("picks", choice(c, 1, 0, 0), 0);
        c.bind(0, 1);
        due("BOUND picks", choice(c, 1, 0, 0), 1);
        due("BOUND", choice(c, 0, 0, 1), 8);
    }

    // ---------------------------------------------------------------- 11 to 16: PLANS and ROUNDS

    private static void paid() {
        promise = 11;
        CoinLoops c = withLoop("x 1;while x=0{pay 1;coin{coin{}{x=1}}{x=1}}");
        paidIs(c, 0, false, 4, 3);
        paidIs(c, 0, true, 4, 3);
        paidIs(c, 1, true, 0, 1);
        c = withLoop("x 3;while x>0 and x<3{pay 1;coin{x=x+1}{x=x-1}}");
        paidIs(c, 1, false, 2, 1);
        paidIs(c, 2, true, 2, 1);
        // a trap that pays: without end, with whatever odds; one that doesn't pay: what came before
        c = withLoop("x 2;while x<2{if x=0{pay 3;coin{x=1}{x=2}}{pay 1}}");
        paidIs(c, 0, true, -2, -2);
        paidIs(c, 0, false, -2, -2);
        c = withLoop("x 2;while x<2{if x=0{pay 3;coin{x=1}{x=2}}{}}");
        paidIs(c, 0, true, 3, 1);
        paidIs(c, 1, true, 0, 1);
        // a trap of two states, one of which pays
        c = withLoop("x 3;while x<3{if x=0{coin{x=1}{x=3}}{if x=1{x=2}{x=1;pay 1}}}");
        paidIs(c, 0, false, -2, -2);
        // of each STATE for itself; without end is the most, and the least if each is so
        c = withLoop("x 1;while 0=0{pick{pay 1}{pay 5;out}}");
        paidIs(c, 0, false, 5, 1);
        paidIs(c, 0, true, -2, -2);
        c = withLoop("x 2;while x<2{pick{pay 4;x=2}{pay 1;coin{x=2}{}}}");
        paidIs(c, 0, false, 2, 1);
        paidIs(c, 0, true, 4, 1);
        due("paid(3)", c.paid(3, true, 0), -1);
        due("paid(-1)", c.paid(-1, true, 0), -1);
        due("part 2", c.paid(0, true, 2), -1);
        due("part -1", c.paid(0, true, -1), -1);
        due("status(1)", c.status(1), 4);
        due("without a LOOP", new CoinLoops().paid(0, false, 0), -1);
    }

    private static void ends() {
        promise = 12;
        CoinLoops c = withLoop("x 3;while x<3{if x>0{coin{x=x+1}{x=x-1}}{}}");
        endsIs(c, 0, false, 0, 1);
        endsIs(c, 1, false, 1, 3);
        endsIs(c, 2, true, 2, 3);
        endsIs(c, 3, false, 1, 1);
        c = withLoop("x 2;while x<2{pick{coin{x=1}{x=2}}{if x=0{coin{coin{x=1}{out}}{out}}{}}}");
        endsIs(c, 0, false, 1, 2);
        endsIs(c, 0, true, 1, 1);
        endsIs(c, 1, false, 0, 1);
        endsIs(c, 1, true, 1, 1);
        due("ends(3)", c.ends(3, true, 0), -1);
        due("part 2", c.ends(0, true, 2), -1);
        due("status(1)", c.status(1), 2);
        due("without a LOOP", new CoinLoops().ends(0, false, 0), -1);
    }

    private static void unsure() {
        promise = 13;
        due("surely", withLoop("x 2;while x>0{coin{x=x-1}{}}").unsure(), -1);
        due("a trap", withLoop("x 2;while x>0{if x=2{}{x=x-1}}").unsure(), 2);
        due("by some PLAN", withLoop("x 2;while x<2{pick{out}{if x=1{}{x=2}}}").unsure(), 1);
        due("OUT all", withLoop("x 2;while x>5{}").unsure(), -1);
        CoinLoops c = new CoinLoops();
        due("without a LOOP", c.unsure(), -1);
        due("status(0)", c.status(0), 1);
    }

    private static void plan() {
        promise = 14;
        CoinLoops c = withLoop("x 2;while x<2{pick{pay 1;out}{pay 2;out}}");
        due("plan(0, most, 0)", c.plan(0, true, 0), 1);
        due("plan(0, most, 1)", c.plan(0, true, 1), 0);
        due("plan(1, most, 0)", c.plan(1, true, 0), 0);
        due("plan(1, most, 1)", c.plan(1, true, 1), 1);
        due("plan(1, least, 1)", c.plan(1, false, 1), 0);
        due("OUT there", c.plan(0, true, 2), -1);
        due("from a STATE that is OUT", c.plan(2, true, 0), 0);
        due("none refused", c.status(1), 0);
        due("plan(3, .., 0)", c.plan(3, true, 0), -1);
        due("plan(0, .., 3)", c.plan(0, true, 3), -1);
        due("plan(0, .., -1)", c.plan(0, true, -1), -1);
        due("status(1)", c.status(1), 3);
        c = withLoop("x 1;while x=0{pick{x=1;pay 20}{pay 1}}");
        due("without end is the most", c.plan(0, true, 0), 1);
        due("and not the least", c.plan(0, false, 0), 0);
        c = withLoop("x 1;while x=0{pick{pay 2}{pay 1}}");
        due("of several the first", c.plan(0, true, 0), 0);
        due("of several the first", c.plan(0, false, 0), 0);
        due("without a LOOP", new CoinLoops().plan(0, false, 0), -1);
    }

    private static void within() {
        promise = 15;
        CoinLoops c = withLoop("x 1;while x=0{pick{pay 2;coin{x=1}{}}{pay 3;coin{coin{x=1}{}}{out}}}");
        due("0 rounds, odds", c.within(0, 0, true, 0), 0);
        due("0 rounds, paid", c.within(0, 0, true, 1), 0);
        due("0 rounds, OUT", c.within(1, 0, true, 0), 1);
        due("least odds in 1", c.within(0, 1, false, 0), 2);
        due("most odds in 1", c.within(0, 1, true, 0), 3);
        due("most odds in 2", c.within(0, 2, true, 0), 15);
        due("least odds in 2", c.within(0, 2, false, 0), 12);
        due("least paid in 1", c.within(0, 1, false, 1), 8);
        due("most paid in 1", c.within(0, 1, true, 1), 12);
        // free anew in each ROUND: 2 and a half of 3
        due("most paid in 2", c.within(0, 2, true, 1), 60);
        // 2 and a half of 2: 3; 3 and a quarter of 2: 3.5
        due("least paid in 2", c.within(0, 2, false, 1), 48);
        c = withLoop("x 1;while x=0{pick{pay 5}{pay 3;x=1}}");
        due("free anew", c.within(0, 3, true, 1), 15 * 64);
        due("least", c.within(0, 3, false, 1), 3 * 64);
        due("20 rounds", c.within(0, 20, true, 1), 100L << 40);
        due("20 rounds, OUT", c.within(1, 20, false, 0), 1L << 40);
        due("20 rounds, odds", c.within(0, 20, false, 0), 0);
        due("21 rounds", c.within(0, 21, true, 1), -1);
        due("-1 rounds", c.within(0, -1, true, 1), -1);
        due("what 2", c.within(0, 1, true, 2), -1);
        due("what -1", c.within(0, 1, true, -1), -1);
        due("state 2", c.within(2, 1, true, 1), -1);
        due("status(1)", c.status(1), 5);
        due("without a LOOP", new CoinLoops().within(0, 0, false, 0), -1);
    }

    private static void half() {
        promise = 16;
        CoinLoops c = withLoop("x 1;while x=0{coin{coin{x=1}{}}{}}");
        due("odds of a quarter", c.half(0), 3);
        due("OUT", c.half(1), 0);
        due("just a half", withLoop("x 1;while x=0{coin{x=1}{}}").half(0), 1);
        due("by whatever is picked", withLoop("x 1;while x=0{pick{x=1}{coin{coin{x=1}{}}{}}}").half(0), 3);
        c = withLoop("x 9;while x>0{x=x-1}");
        due("nine", c.half(9), 9);
        // five times odds of a quarter take 19; one or two rounds ahead of it
        c = withLoop("x 7;while x<7{if x<2{x=x+1}{coin{coin{x=x+1}{}}{}}}");
        due("19", c.half(2), 19);
        due("20", c.half(1), 20);
        due("21 are not so few", c.half(0), -1);
        c = withLoop("x 9;while x>0{coin{x=x-1}{coin{x=9}{}}}");
        due("not so few", c.half(9), -1);
        due("none refused", c.status(1), 0);
        due("never", withLoop("x 0;while x=0{}").half(0), -1);
        due("half(10)", c.half(10), -1);
        due("half(-1)", c.half(-1), -1);
        due("status(1)", c.status(1), 2);
        due("without a LOOP", new CoinLoops().half(0), -1);
    }

    // ---------------------------------------------------------------- 17 to 20: GUESSES

    private static void guessed() {
        promise = 17;
        CoinLoops c = withGuess(withLoop("x 2;y 1;while x<2{}"), "x=1 and y=1?3-2x-99y by 12;x=1 or y=1?2x+4y by 6;5");
        long[][] want = {{5, 1}, {1, 3}, {0, 1}, {2, 3}, {-49, 6}, {0, 1}};
        for (int s = 0; s < 6; s++) {
            fraction("guessed(" + s + ")", c.guessed(s, 0), c.guessed(s, 1), want[s][0], want[s][1]);
        }
        due("guessed(6)", c.guessed(6, 0), NOT_TOLD);
        due("guessed(-1)", c.guessed(-1, 0), NOT_TOLD);
        due("part 2", c.guessed(0, 2), NOT_TOLD);
        due("part -1", c.guessed(0, -1), NOT_TOLD);
        due("status(1)", c.status(1), 4);
        c = withLoop("x 2;while x<2{}");
        due("no GUESS", c.guessed(9, 0), NOT_TOLD);
        due("status(0)", c.status(0), 1);
        due("status(1)", c.status(1), 0);
        c = withGuess(new CoinLoops(), "3");
        due("no LOOP", c.guessed(0, 0), NOT_TOLD);
        due("status(0)", c.status(0), 1);
    }

    private static void ahead() {
        promise = 18;
        CoinLoops c = withLoop("x 2;while x<2{pay 1;pick{coin{x=1}{coin{x=2}{out}}}{coin{x=0}{x=1}}}");
        withGuess(c, "x=0?1 by 3;5 by 7");
        fraction("ahead(0, 0)", c.ahead(0, 0, 0), c.ahead(0, 0, 1), 19, 14);
        fraction("ahead(0, 1)", c.ahead(0, 1, 0), c.ahead(0, 1, 1), 32, 21);
        withGuess(c, "0-9 by 2");
        fraction("below 0", c.ahead(0, 1, 0), c.ahead(0, 1, 1), -7, 2);
        due("OUT", c.ahead(2, 0, 0), NOT_TOLD);
        due("ahead(0, 2)", c.ahead(0, 2, 0), NOT_TOLD);
        due("ahead(3, 0)", c.ahead(3, 0, 0), NOT_TOLD);
        due("part 2", c.ahead(0, 0, 2), NOT_TOLD);
        due("status(1)", c.status(1), 4);
        c = withLoop("x 2;while x<2{}");
        due("no GUESS", c.ahead(9, 0, 0), NOT_TOLD);
        due("status(0)", c.status(0), 1);
    }

    private static int refutes(CoinLoops c, String text, int rule) {
        return withGuess(c, text).refutes(rule);
    }

    private static void refutes() {
        promise = 19;
        // from 1 and 2 by picks: pay 2 and go down surely, or pay 1 and go down by a coin
        CoinLoops c = withLoop("x 2;while x>0{pick{pay 2;x=x-1}{pay 1;coin{x=x-1}{}}}");
        due("0: just met", refutes(c, "2x", 0), -1);
        due("0: by some CHOICE", refutes(c, "2x-1", 0), 1);
        due("0: too little at 2", refutes(c, "x=1?2;3", 0), 2);
        due("0: below 0", refutes(withLoop("x 1;while 0=0{out}"), "0-x", 0), 1);
        due("1: just met", refutes(c, "2x", 1), -1);
        CoinLoops d = withLoop("x 1;while x>0{pick{pay 2;x=0}{pay 9;x=0}}");
        due("1: by each CHOICE", refutes(d, "2", 1), -1);
        due("0: by some CHOICE", refutes(d, "2", 0), 1);
        due("1: less by each", refutes(d, "1", 1), 1);
        due("1: below 0", refutes(withLoop("x 1;while 0=0{out}"), "0-x by 12", 1), 1);
        due("2: a coin takes twice as long", refutes(c, "2x", 2), -1);
        due("2: too little", refutes(c, "3x by 2", 2), 1);
        due("2: too little further on", refutes(c, "x=1?2;3", 2), 2);
        due("2: below 0", refutes(withLoop("x 1;while 0=0{out}"), "1-2x", 2), 1);
        due("2: just 1", refutes(withLoop("x 1;while 0=0{out}"), "1", 2), -1);
        due("2: less than 1", refutes(withLoop("x 1;while 0=0{out}"), "11 by 12", 2), 0);
        due("3: below by each", refutes(d, "2", 3), -1);
        due("3: above by some", refutes(d, "9", 3), 1);
        due("3: below 0 is fine", refutes(d, "0-5", 3), -1);
        due("4: falls", refutes(c, "x", 4), -1);
        due("4: by less than 1", refutes(c, "11x by 12", 4), 2);
        due("4: below 0", refutes(c, "x=1?0-1;9", 4), 1);
        due("4: to OUT from 0", refutes(c, "0", 4), 2);
        due("4: to out", refutes(withLoop("x 0;while 0=0{coin{coin{out}{}}{}}"), "0", 4), -1);
        due("4: by some CHOICE not", refutes(withLoop("x 0;while 0=0{pick{out}{}}"), "3", 4), 0);
        due("rule 5", c.refutes(5), -2);
        due("rule -1", c.refutes(-1), -2);
        due("status(1)", c.status(1), 2);
        due("no state is IN", refutes(withLoop("x 2;while x>5{}"), "0-1", 0), -1);
        d = withLoop("x 2;while x<2{}");
        due("no GUESS", d.refutes(7), -2);
        due("status(0)", d.status(0), 1);
        due("status(1)", d.status(1), 0);
    }

    private static void best() {
        promise = 20;
        bestIs(withLoop("x 0;while x=0{pay 1;coin{coin{}{out}}{out}}"), 0, 4, 3, 0, 1, 0, 1, 4, 3);
        CoinLoops c = withLoop("x 2;while 0=0{if x=1{pay 2}{};out}");
        bestIs(c, 0, 0, 1, 2, 1, 0, 1, 0, 1);
        // two CORNERS tell 2 there: that of least a
        bestIs(c, 1, 2, 1, -2, 1, 0, 1, 4, 1);
        bestIs(c, 2, 0, 1, -2, 1, 0, 1, 4, 1);
        c = withLoop("x 1;y 1;while 0=0{if x=1 and y=1{pay 4}{};out}");
        bestIs(c, 0, 0, 1, 0, 1, 4, 1, 0, 1);
        bestIs(c, 1, 0, 1, 0, 1, 4, 1, 0, 1);
        bestIs(c, 2, 0, 1, 4, 1, 0, 1, 0, 1);
        bestIs(c, 3, 4, 1, 0, 1, 4, 1, 0, 1);
        c = withLoop("x 1;y 2;while 0=0{if y=1{pay 2}{};out}");
        // of least a, then of least b
        bestIs(c, 2, 2, 1, 0, 1, -2, 1, 4, 1);
        bestIs(c, 0, 0, 1, 0, 1, 2, 1, 0, 1);
        // a is 0, as x is 0 alone
        c = withLoop("x 0;y 3;while y>0{pay 3;coin{y=y-1}{}}");
        bestIs(c, 2, 12, 1, 0, 1, 6, 1, 0, 1);
        // STATES that are OUT count 0, whatever a and c are there
        c = withLoop("x 3;while x>0 and x<3{pay 1;x=x+1}");
        bestIs(c, 1, 2, 1, -1, 1, 0, 1, 3, 1);
        due("OUT", c.best(0, 0), NOT_TOLD);
        due("best(4, 0)", c.best(4, 0), NOT_TOLD);
        due("best(1, 8)", c.best(1, 8), NOT_TOLD);
        due("best(1, -1)", c.best(1, -1), NOT_TOLD);
        due("status(1)", c.status(1), 4);
        c = withLoop("x 2;while x=1{pay 1;out}");
        due("one STATE, two numbers", c.best(1, 0), NOT_TOLD);
        c.price(0, 0);
        due("the same without pay", c.best(1, 0), NOT_TOLD);
        due("a trap that pays", withLoop("x 1;while 0=0{pay 1}").best(0, 0), NOT_TOLD);
        due("none refused", c.status(1), 0);
        bestIs(withLoop("x 1;while 0=0{}"), 1, 0, 1, 0, 1, 0, 1, 0, 1);
        due("without a LOOP", new CoinLoops().best(0, 0), NOT_TOLD);
    }

    // ---------------------------------------------------------------- 21 to 26

    private static void runIs(CoinLoops c, int state, int picks, int seed, int rounds, int... five) {
        for (int what = 0; what < 5; what++) {
            due("run(" + state + ", " + picks + ", " + seed + ", " + rounds + ", " + what + ")", c.run(state, picks, seed, rounds, what), five[what]);
        }
    }

    private static void run() {
        promise = 21;
        // draws from seed 0: heads three times, tails, heads, tails three times; from -1: tails, tails, heads
        CoinLoops c = withLoop("x 9;while x<9{pay 1;coin{x=x+1}{out}}");
        runIs(c, 0, 0, 0, 200, 1, 4, 4, -1, 4);
        runIs(c, 0, 0, 0, 3, 0, 3, 3, 3, 3);
        runIs(c, 6, 0, 0, 3, 1, 3, 3, 9, 3);
        runIs(c, 7, 7, 0, 200, 1, 2, 2, 9, 2);
        runIs(c, 0, 0, -1, 9, 1, 1, 1, -1, 1);
        runIs(c, 0, 0, 0, 0, 0, 0, 0, 0, 0);
        runIs(c, 9, 0, 0, 0, 1, 0, 0, 9, 0);
        runIs(c, 9, 0, 0, 9, 1, 0, 0, 9, 0);
        c = withLoop("x 2;y 1;while y=0{pick{x=x+1}{pick{x=0}{pay 7}};if x=2{y=1}{}}");
        runIs(c, 0, 0, 5, 200, 1, 2, 0, 5, 0);
        runIs(c, 0, 1, 5, 200, 0, 200, 0, 0, 0);
        runIs(c, 1, 3, 5, 200, 0, 200, 1400, 1, 0);
        c.bind(0, 1);
        runIs(c, 0, 0, 5, 200, 1, 2, 0, 5, 0);
        c.price(0, 20);
        due("another price", c.run(1, 3, 5, 200, 2), 4000);
        due("picks 8", c.run(0, 8, 0, 0, 0), -1);
        due("picks -1", c.run(0, -1, 0, 0, 0), -1);
        due("201 rounds", c.run(0, 0, 0, 201, 0), -1);
        due("-1 rounds", c.run(0, 0, 0, -1, 0), -1);
        due("what 5", c.run(0, 0, 0, 0, 5), -1);
        due("what -1", c.run(0, 0, 0, 0, -1), -1);
        due("state 6", c.run(6, 0, 0, 0, 0), -1);
        due("status(1)", c.status(1), 7);
        due("without a LOOP", new CoinLoops().run(0, 0, 0, 0, 0), -1);
    }

    private static void bind() {
        promise = 22;
        CoinLoops c = withLoop("x 1;while 0=0{pick{pay 1}{pay 2};pick{out}{}}");
        due("bind(0, 1)", c.bind(0, 1), 4);
        due("paid", c.paid(0, false, 0), 2);
        due("within", c.within(0, 1, false, 1), 8);
        due("bind(0, 0)", c.bind(0, 0), 4);
        due("paid", c.paid(0, false, 0), 1);
        due("within", c.within(0, 1, true, 1), 4);
        due("bind(1, 1)", c.bind(1, 1), 1);
        due("picks", choice(c, 0, 0, 0), 2);
        due("paid", c.paid(0, false, 0), -2);
        due("half", c.half(0), -1);
        due("bind(1, 0)", c.bind(1, 0), 1);
        due("half", c.half(0), 1);
        due("best", c.best(1, 0), 1);
        due("bind(0, NONE)", c.bind(0, -1), 4);
        due("best", c.best(1, 0), 2);
        due("bind(1, NONE)", c.bind(1, -1), 16);
        due("none is BOUND", c.rule(8), 0);
        due("no third pick", c.bind(2, 0), -1);
        due("bind(-1, 0)", c.bind(-1, 0), -1);
        due("bind(3, 0)", c.bind(3, 0), -1);
        due("bind(0, 2)", c.bind(0, 2), -1);
        due("bind(0, -2)", c.bind(0, -2), -1);
        due("status(1)", c.status(1), 5);
        c = new CoinLoops();
        due("without a LOOP", c.bind(0, 5), -1);
        due("status(0)", c.status(0), 1);
        c = withLoop("x 9;while 0=0{pick{pay 1}{pay 2}}");
        due("TOO MANY", c.bind(0, -1), -2);
        due("BOUND one", c.bind(0, 0), 1);
        due("status(2)", c.status(2), 0);
    }

    private static void price() {
        promise = 23;
        CoinLoops c = withLoop("x 1;while x=0{pick{pay 1}{pay 5};x=1;pay 2}");
        due("price(0, 20)", c.price(0, 20), 1);
        due("price(0, 4)", c.price(0, 4), 20);
        due("price(2, 0)", c.price(2, 0), 2);
        due("choice", choice(c, 0, 0, 1), 16);
        due("paid", c.paid(0, false, 0), 4);
        due("paid", c.paid(0, true, 0), 5);
        due("price(0, 5)", c.price(0, 5), 4);
        due("alike now", c.choices(0), 1);
        due("plans", c.rule(6), 1);
        due("price(3, 0)", c.price(3, 0), -1);
        due("price(-1, 0)", c.price(-1, 0), -1);
        due("price(0, 21)", c.price(0, 21), -1);
        due("price(0, -1)", c.price(0, -1), -1);
        due("status(1)", c.status(1), 4);
        due("it stays", c.price(0, 5), 5);
        c = new CoinLoops();
        due("without a LOOP", c.price(0, 99), -1);
        due("status(0)", c.status(0), 1);
    }

    private static void most() {
        promise = 24;
        // 0: to 1 or 2; 1: a trap, or out; 2: half to 3, half out; 3: OUT; 4: pays without end, or ends
        CoinLoops c = withLoop("x 5;while x<3 or x=4{if x=0{pick{x=1}{x=2}}{if x=1{pick{}{out}}"
                + "{if x=2{pay 1;coin{x=3}{out}}{pick{pay 1}{x=5}}}}}");
        int[] want = {4, 0, 4, 0, 3, 6, 4, 2, 1};
        for (int i = 0; i < 9; i++) {
            due("most(" + i + ")", c.most(i), want[i]);
        }
        c.bind(0, 1);
        due("come to, BOUND", c.most(6), 3);
        due("ODDS LEAST are least", c.most(3), 1);
        c.bind(2, 1);
        due("MOST is PAID", c.most(2), 0);
        due("by each PLAN", c.most(4), 5);
        c.bind(1, 0);
        due("by some PLAN", c.most(5), 5);
        due("most(9)", c.most(9), -1);
        due("most(-1)", c.most(-1), -1);
        due("status(1)", c.status(1), 2);
        c = withLoop("x 2;while x>5{pay 1;pick{}{}}");
        int[] none = {0, -1, -1, -1, 3, 3, 1, 1, 0};
        for (int i = 0; i < 9; i++) {
            due("none is IN: most(" + i + ")", c.most(i), none[i]);
        }
        due("none refused", c.status(0) + c.status(1) + c.status(2), 0);
        c = withLoop("x 2;while x>0{if x=2{pick{x=0}{x=1}}{x=0}}");
        due("most CHOICES", c.most(1), 2);
        due("0 is PAID: of those that are IN", c.most(2), 1);
        due("ODDS 1: of those that are IN", c.most(3), 1);
        due("without a LOOP", new CoinLoops().most(9), -1);
    }

    private static void status() {
        promise = 25;
        CoinLoops c = new CoinLoops();
        c.rule(99);
        c.best(-1, -1);
        c.feed(-1, -1, -1, -1, -1);
        c.end(99);
        c.fault(9);
        c.loop();
        c.guess();
        c.status(9);
        c.count(9);
        due("no LOOP is the first", c.status(0), 2);
        due("status(1)", c.status(1), 0);
        due("status(3)", c.status(3), -1);
        due("status(-1)", c.status(-1), -1);
        c.end(0);
        tape(c, "x 9;while 0=0{pick{pay 1}{pay 2}}").loop();
        c.paid(99, true, 0);
        due("no such STATE is the first", c.status(1), 1);
        due("status(2)", c.status(2), 0);
        c.paid(0, true, 0);
        due("TOO MANY PLANS", c.status(2), 1);
        due("they stay", c.status(0), 2);
        c.ahead(99, 0, 0);
        due("no GUESS is the first", c.status(0), 3);
    }

    private static void count() {
        promise = 26;
        CoinLoops c = tape(new CoinLoops(), "pay 3");
        due("count(0)", c.count(0), 5);
        due("count(1)", c.count(1), -1);
        due("count(-1)", c.count(-1), -1);
        due("it counts nowhere", c.status(1), 0);
    }

    private static void tooManyPlans() {
        promise = 11;
        CoinLoops c = withLoop("x 6;while 0=0{pick{pay 1}{pay 2}}");
        due("128 are TOO MANY", c.rule(6), -2);
        due("paid", c.paid(0, true, 0), -1);
        due("ends", c.ends(0, true, 0), -1);
        due("unsure", c.unsure(), -1);
        due("plan", c.plan(0, true, 0), -1);
        for (int i = 2; i < 6; i++) {
            due("most(" + i + ")", c.most(i), -1);
        }
        due("status(2)", c.status(2), 8);
        due("most(0)", c.most(0), 7);
        due("most(1)", c.most(1), 0);
        due("most(6)", c.most(6), 1);
        due("within", c.within(0, 1, true, 1), 8);
        due("half", c.half(0), -1);
        due("best", c.best(0, 0), NOT_TOLD);
        due("refutes", withGuess(c, "0").refutes(0), 0);
        due("status(2)", c.status(2), 8);
        c = withLoop("x 5;while 0=0{pick{pay 1}{pay 2}}");
        due("64 are not", c.rule(6), 64);
        due("paid", c.paid(5, true, 0), -2);
        due("the last PLAN's kind", c.plan(5, false, 5), 0);
    }

    private static void semantics() {
        promise = 9;
        // sums one behind the other, HELD at 0 and at N
        CoinLoops c = withLoop("x 4;y 1;while x<4{x=x+1;y=x;x=2x+y;x=x-99+98}");
        due("in a row", c.leads(0, 0, 2 + 5), 4);
        due("HELD", c.leads(3, 0, 3 + 5), 4);
        c = withLoop("x 1;while y=0{y=y+1;x=x+y+1}");
        due("y is 0 without", c.leads(0, 0, 1), 4);
        // and binds more than or
        c = withLoop("x 3;while x=0 or x=1 and x=2 or x>2{}");
        due("IN", c.rule(3), 0b1001);
        c = withLoop("x 3;while x=1 and 0=1 or x=2 and 0=0{}");
        due("IN", c.rule(3), 0b0100);
        // out: nothing more of it is done
        c = withLoop("x 1;while 0=0{coin{pay 1;out;pay 9}{pay 2};pay 4}");
        due("PAID", choice(c, 0, 0, 1), 2 + 12);
        due("by out", choice(c, 0, 0, 2), 2);
        // two coins in a row: four quarters
        c = withLoop("x 3;while x=0{coin{x=x+1}{};coin{x=x+2}{}}");
        for (int to = 0; to < 4; to++) {
            due("leads to " + to, c.leads(0, 0, to), 1);
        }
    }

    /** The largest numbers that a LOOP can tell. */
    private static void deepest() {
        promise = 11;
        CoinLoops c = withLoop("x 9;while x<9{" + "pay 20;".repeat(18) + "coin{coin{x=x+1}{x=0}}{x=0}}");
        // a row of nine quarters: (4 + 16 + .. + 4 to the 9) rounds, 360 in each
        paidIs(c, 0, true, 360L * (4 * ((1L << 18) - 1) / 3), 1);
        endsIs(c, 0, false, 1, 1);
        due("within 20", c.within(0, 20, true, 1) > 0, true);
        c = withLoop("x 9;while x<9{" + "pay 20;".repeat(18) + "coin{coin{x=x+1}{x=x-1}}{x=0}}");
        due("a long fraction", c.paid(0, true, 0) > 1000000L, true);
        bestIs(withLoop("x 9;while x<9{" + "pay 20;".repeat(20) + "x=x+1}"), 0, 3600, 1, -400, 1, 0, 1, 3600, 1);
    }

    /** TAPES that are full: as many parts, and as many conditions, as there can be. */
    private static void longest() {
        promise = 6;
        CoinLoops c = withLoop("x 1;while 0=0{}");
        due("500 parts", tape(c, "1+".repeat(249) + "1x").guess(), 1);
        due("their sum at 0", c.guessed(0, 0), 249);
        due("their sum at 1", c.guessed(1, 0), 250);
        due("500 parts that go wrong", tape(c, "1+".repeat(250)).fault(1), 500);
        due("500 signs", tape(c, ";".repeat(500)).fault(0), 0);
        due("500 digits", tape(c, "1".repeat(500)).fault(1), 0);
        due("500 letters", tape(c, "x".repeat(500)).fault(1), 0);
        for (int i = 0; i < 4; i++) {
            due("many conditions", tape(c, "1<1or".repeat(97) + " x=1?7;3").guess(), 2);
            due("the last of them", c.guessed(1, 0), 7);
            due("none of them", c.guessed(0, 0), 3);
        }
        promise = 5;
        c = withLoop("x 1;while " + "1<1or".repeat(90) + " x=1{pay 1;if 1<1or x=1{out}{}}");
        due("IN", c.rule(3), 2);
        due("out", choice(c, 1, 0, 2), 4);
    }

    /** No number, however far away, may break a call. */
    private static void extremes() {
        promise = 25;
        int[] far = {Integer.MIN_VALUE, Integer.MIN_VALUE + 7, -1000, 1000, Integer.MAX_VALUE / 8 + 1, Integer.MAX_VALUE};
        CoinLoops bare = new CoinLoops();
        CoinLoops full = withGuess(withLoop("x 2;while x>0{pick{pay 2;x=x-1}{pay 1;coin{x=x-1}{}}}"), "2x");
        for (int n : far) {
            refusedFar(bare, n);
            refusedFar(full, n);
        }
        due("no LOOP", bare.status(0), far.length * 30);
        due("no such ones", full.status(1), far.length * 30);
    }

    private static void refusedFar(CoinLoops c, int n) {
        due("end", c.end(n), false);
        due("fault", c.fault(n), -2);
        due("rule", c.rule(n), -2);
        due("choices", c.choices(n), -1);
        due("choice by state", choice(c, n, 0, 0), THROWS);
        due("choice by choice", choice(c, 1, n, 0), THROWS);
        due("choice by what", choice(c, 1, 0, n), THROWS);
        due("leads by state", c.leads(n, 0, 0), -1);
        due("leads by choice", c.leads(1, n, 0), -1);
        due("leads by to", c.leads(1, 0, n), -1);
        due("paid by state", c.paid(n, true, 0), -1);
        due("paid by part", c.paid(1, true, n), -1);
        due("ends by state", c.ends(n, true, 0), -1);
        due("plan by state", c.plan(n, true, 1), -1);
        due("plan by of", c.plan(1, true, n), -1);
        due("within by state", c.within(n, 1, true, 0), -1);
        due("within by n", c.within(1, n, true, 0), -1);
        due("within by what", c.within(1, 1, true, n), -1);
        due("half", c.half(n), -1);
        due("guessed by state", c.guessed(n, 0), NOT_TOLD);
        due("ahead by state", c.ahead(n, 0, 0), NOT_TOLD);
        due("ahead by choice", c.ahead(1, n, 0), NOT_TOLD);
        due("refutes", c.refutes(n), -2);
        due("best by state", c.best(n, 0), NOT_TOLD);
        due("best by what", c.best(1, n), NOT_TOLD);
        due("run by state", c.run(n, 0, 0, 0, 0), -1);
        due("run by rounds", c.run(1, 0, 0, n, 0), -1);
        due("bind by pick", c.bind(n, 0), -1);
        due("bind by number", c.bind(0, n), -1);
        due("price by k", c.price(n, 0), -1);
        due("price by n", c.price(0, n), -1);
        due("most", c.most(n), -1);
        due("status", c.status(n), -1);
        due("count", c.count(n), -1);
    }
}
