/** The sentences on what is told of tickets that name an edge, a test each (promises 14 to 27). */
public final class EdgesOfTicketsTest {
    private static final int LEAST = Integer.MIN_VALUE, MOST = Integer.MAX_VALUE;
    private static final Due due = new Due();

    public static void main(String[] args) {
        due.sentence("A TICKET of a TRADE, READY: its number. BAD; FULL.", EdgesOfTicketsTest::submitted);
        due.sentence("So many ROUNDS (1 to 100)", EdgesOfTicketsTest::oneToHundredRounds);
        due.sentence("till none is READY: how many TURNS there were", EdgesOfTicketsTest::tillNoneIsReady);
        due.sentence("3 the FAILURE by which it FAILED (0: it has not)", EdgesOfTicketsTest::failures);
        due.sentence("4 a of the FAIL, if that is TOLD (else 0)", EdgesOfTicketsTest::told);
        due.sentence("5 the RULE by which it is BROKEN (NONE)", EdgesOfTicketsTest::brokenRule);
        due.sentence("6 TRIES that it had in all", EdgesOfTicketsTest::triesInAll);
        due.sentence("0: it is not, or there is none such", EdgesOfTicketsTest::answers);
        due.sentence("of one WOKEN that before", EdgesOfTicketsTest::wokenKeepsTheTryBefore);
        due.sentence("2 how many CELLS it WROTE (0 if it FAILED, WAITS)", EdgesOfTicketsTest::wrote);
        due.sentence("3 how long the WAY is (0: it neither FAILED nor WAITS)", EdgesOfTicketsTest::wayLengths);
        due.sentence("NONE: there is none; so of one GIVEN UP by CLASHES", EdgesOfTicketsTest::triedNone);
        due.sentence("1 the STEP; NONE: none such", EdgesOfTicketsTest::wayNone);
        due.sentence("Whether that TRY READ a CELL: 1, 0.", EdgesOfTicketsTest::reads);
        due.sentence("NONE: told from outside; not WOKEN yet", EdgesOfTicketsTest::wokenNone);
        due.sentence("The i-th TICKET that is DONE, in order of EFFECTS; NONE.", EdgesOfTicketsTest::order);
        due.sentence("1 the kind; NONE: there is none such", EdgesOfTicketsTest::noteNone);
        due.sentence("What NOTE i tells; 0 without.", EdgesOfTicketsTest::notedNone);
        due.sentence("6 NOTES that came (also those not kept)", EdgesOfTicketsTest::counts);
        due.sentence("h is 17; h becomes 31 h and each of", EdgesOfTicketsTest::digests);
        due.sentence("as longs that wrap", EdgesOfTicketsTest::digestWraps);
        due.end();
    }

    private static final int[] FAR = {-1, 20, 40, LEAST, MOST};

    private static void submitted() {
        SeedExchange x = new SeedExchange();
        due.is("trade 0", x.submit(0), 0);
        due.is("trade 15", x.submit(15), 1);
        int[] none = {-1, 16, LEAST, MOST};
        for (int trade : none) {
            due.is("trade " + trade, x.submit(trade), Ops.BAD);
        }
        due.is("count", x.count(0), 2);
        due.is("READY", x.ticket(1, 0), Ops.READY);
        due.is("its trade", x.ticket(1, 1), 15);
        for (int i = 2; i < 20; i++) {
            due.is("ticket " + i, x.submit(0), i);
        }
        due.is("the 21st", x.submit(0), Ops.FULL);
        due.is("the 21st of no trade", x.submit(-1), Ops.BAD);
        due.is("ready ones", x.count(1), 20);
    }

    private static void oneToHundredRounds() {
        SeedExchange x = new SeedExchange();
        for (int i = 0; i < 20; i++) {
            x.submit(0);
        }
        int[] wrong = {0, -1, 101, LEAST, MOST};
        for (int rounds : wrong) {
            due.is("run " + rounds, x.run(rounds), Ops.BAD);
            due.is("no round", x.count(4), 0);
            due.is("no try", x.count(5), 0);
        }
        due.is("run 1", x.run(1), 1);
        due.is("one round", x.count(4), 1);
        due.is("run 2", x.run(2), 2);
        due.is("three rounds", x.count(4), 3);
        due.is("run 100", x.run(100), 17);
        due.is("as many as there were", x.count(4), 20);
    }

    private static void tillNoneIsReady() {
        SeedExchange x = new SeedExchange();
        due.is("no ticket", x.run(100), 0);
        x.number(0, 0);
        Ops.steps(x, 1, Ops.READ, 0, 0, Ops.WAIT, 0, 0);
        Ops.steps(x, 2, Ops.READ, 0, 0, Ops.MORE, 1, 0, Ops.WRITE, 0, 0);
        for (int i = 0; i < 6; i++) {
            x.submit(i == 0 ? 1 : 2);
        }
        // Ticket 0 is woken by each of the five, and given up in its fifth turn.
        due.is("turns", x.run(100), 10);
        due.is("rounds", x.count(4), 10);
        due.is("given up", x.ticket(0, 0), Ops.GIVEN_UP);
        due.is("none is ready", x.run(100), 0);
        due.is("no more rounds", x.count(4), 10);
        x.submit(1);
        due.is("waiting ones are not ready", x.run(100), 1);
        due.is("turns of none", x.run(100), 0);
    }

    private static void failures() {
        SeedExchange x = new SeedExchange();
        x.number(0, 0);
        x.submit(0);
        due.is("of one ready", x.ticket(0, 3), 0);
        x.run(1);
        due.is("of one done", x.ticket(0, 3), 0);
        int t = Ops.playSteps(x, Ops.READ, 0, 0, Ops.WAIT, 0, 0);
        due.is("of one waiting", x.ticket(t, 3), 0);
        Ops.retell(x, 0, Ops.READ, 1, 0);
        x.number(0, 0);
        x.run(1);
        due.is("of one that waited and failed", x.ticket(t, 3), Ops.NULL);
        x.clash(0, 3);
        due.is("of one given up", x.ticket(Ops.play(x, 0), 3), 0);
        x.clash(0, 0);
        x.rule(2, 0, 0, 1);
        due.is("of one broken", x.ticket(Ops.play(x, 1), 3), 0);
        due.is("one that fails is not broken", x.ticket(Ops.play(x, 0), 3), Ops.NULL);
    }

    private static void told() {
        int[] all = {LEAST, -1, 0, 1, MOST};
        for (int a : all) {
            SeedExchange x = new SeedExchange();
            int t = Ops.playSteps(x, Ops.FAIL, a, 7);
            due.is("failure", x.ticket(t, 3), Ops.TOLD);
            due.is("fail " + a, x.ticket(t, 4), a);
        }
        SeedExchange x = new SeedExchange();
        Ops.steps(x, 1, Ops.FAIL, 5, 0);
        due.is("before it is tried", x.ticket(x.submit(1), 4), 0);
        x.run(1);
        int t = Ops.playSteps(x, Ops.CATCH, 1, 0, Ops.READ, 0, 0);
        due.is("another failure behind a FAIL that was caught", x.ticket(t, 4), 0);
        t = Ops.playSteps(x, Ops.CATCH, 1, 0);
        due.is("done behind a FAIL that was caught", x.ticket(t, 4), 0);
        t = Ops.playSteps(x, Ops.CATCH, 1, 0, Ops.WAIT, 0, 0);
        due.is("waits behind a FAIL that was caught", x.ticket(t, 4), 0);
        t = Ops.playSteps(x, Ops.CATCH, 1, 0, Ops.FAIL, 6, 0);
        due.is("the FAIL that was not caught", x.ticket(t, 4), 6);
        x.clash(1, 4);
        due.is("given up", x.ticket(Ops.play(x, 1), 4), 0);
    }

    private static void brokenRule() {
        SeedExchange x = new SeedExchange();
        x.number(0, 0);
        int done = Ops.play(x, 0);
        x.rule(0, 0, 0, 1);
        due.is("done ahead of the rule", x.ticket(done, 5), Ops.NONE);
        int t = x.submit(0);
        due.is("ready", x.ticket(t, 5), Ops.NONE);
        x.run(1);
        due.is("broken by 0", x.ticket(t, 5), 0);
        due.is("broken", x.ticket(t, 0), Ops.BROKEN);
        x.number(0, 1);
        due.is("it stays broken", x.ticket(t, 5), 0);
        due.is("it is not ready again", x.run(1), 0);
        due.is("failed", x.ticket(Ops.playSteps(x, Ops.FAIL, 0, 0), 5), Ops.NONE);
    }

    private static void triesInAll() {
        SeedExchange x = new SeedExchange();
        x.number(0, 0);
        Ops.steps(x, 1, Ops.READ, 0, 0, Ops.WAIT, 0, 0);
        int t = x.submit(1);
        due.is("none yet", x.ticket(t, 6), 0);
        x.clash(1, 2);
        x.run(1);
        due.is("with two clashes", x.ticket(t, 6), 3);
        x.number(0, 0);
        x.clash(1, 1);
        x.run(1);
        due.is("with one more turn", x.ticket(t, 6), 5);
        due.is("turns", x.ticket(t, 2), 2);
        due.is("all", x.count(5), 5);
    }

    private static void answers() {
        SeedExchange x = new SeedExchange();
        x.number(0, 0);
        int[] says = {Ops.PUT, 6, 0, Ops.SAY, 0, 0};
        Ops.steps(x, 1, says);
        int t = x.submit(1);
        due.is("ready", x.answer(t, 0), 0);
        x.run(1);
        due.is("done", x.answer(t, 0), 6);
        int[] none = {1, 7, 8, -1, LEAST, MOST};
        for (int i : none) {
            due.is("answer " + i, x.answer(t, i), 0);
        }
        for (int far : FAR) {
            due.is("ticket " + far, x.answer(far, 0), 0);
        }
        due.is("the next ticket", x.answer(t + 1, 0), 0);
        Ops.steps(x, 2, says);
        Ops.steps(x, 2, Ops.FAIL, 0, 0);
        due.is("failed", x.answer(Ops.play(x, 2), 0), 0);
        Ops.steps(x, 3, says);
        Ops.steps(x, 3, Ops.READ, 0, 0, Ops.WAIT, 0, 0);
        int waits = Ops.play(x, 3);
        due.is("waiting", x.answer(waits, 0), 0);
        x.number(0, 0);
        due.is("woken", x.answer(waits, 0), 0);
        x.clash(3, 3);
        x.run(1);
        due.is("given up", x.answer(waits, 0), 0);
        x.rule(2, 0, 0, 1);
        due.is("broken", x.answer(Ops.play(x, 1), 0), 0);
    }

    private static void wokenKeepsTheTryBefore() {
        SeedExchange x = new SeedExchange();
        x.number(0, 0);
        Ops.steps(x, 1, Ops.PUT, 0, 0, Ops.READ, 0, 0, Ops.WAIT, 0, 0);
        int t = Ops.play(x, 1);
        x.number(0, 0);
        Ops.retell(x, 1, Ops.SAY, 0, 0);
        due.is("ready", x.ticket(t, 0), Ops.READY);
        due.is("steps", x.tried(t, 0), 3);
        due.is("read", x.tried(t, 1), 1);
        due.is("written", x.tried(t, 2), 0);
        due.is("way", x.tried(t, 3), 1);
        due.is("its step", x.way(t, 0, 1), 2);
        due.is("cell 0", x.read(t, 0), 1);
        x.run(1);
        due.is("of the later one then", x.tried(t, 0), 1);
        due.is("of the later one then", x.read(t, 0), 0);
        due.is("no way then", x.way(t, 0, 0), Ops.NONE);
    }

    private static void wrote() {
        SeedExchange x = new SeedExchange();
        due.is("none", x.tried(Ops.play(x, 0), 2), 0);
        int t = Ops.playSteps(x, Ops.WRITE, 0, 0, Ops.WRITE, 0, 0, Ops.WRITE, 39, 0);
        due.is("two cells thrice", x.tried(t, 2), 2);
        t = Ops.playSteps(x, Ops.WRITE, 0, 0, Ops.FAIL, 0, 0);
        due.is("failed", x.tried(t, 2), 0);
        t = Ops.playSteps(x, Ops.WRITE, 0, 0, Ops.WAIT, 0, 0);
        due.is("waits", x.tried(t, 2), 0);
        x.rule(2, 0, 0, 1);
        t = Ops.playSteps(x, Ops.WRITE, 0, 0, Ops.WRITE, 1, 0);
        due.is("broken", x.tried(t, 2), 2);
        SeedExchange all = new SeedExchange();
        for (int c = 0; c < 40; c++) {
            Ops.steps(all, c / 20, Ops.SWAP, c, c);
        }
        t = Ops.play(all, 0);
        due.is("twenty read", all.tried(t, 1), 20);
        due.is("twenty written", all.tried(t, 2), 20);
        SeedExchange most = new SeedExchange();
        for (int i = 0; i < 20; i++) {
            Ops.steps(most, i / 10, Ops.SWAP, i, i + 20);
        }
        Ops.steps(most, 2, Ops.DO, 0, 0, Ops.DO, 1, 0);
        t = Ops.play(most, 2);
        due.is("all cells read", most.tried(t, 1), 40);
        due.is("all cells written", most.tried(t, 2), 40);
        due.is("the last cell", most.cell(39, 1), t);
    }

    private static void wayLengths() {
        SeedExchange x = new SeedExchange();
        due.is("done", x.tried(Ops.play(x, 0), 3), 0);
        due.is("failed", x.tried(Ops.playSteps(x, Ops.FAIL, 0, 0), 3), 1);
        due.is("waits", x.tried(Ops.playSteps(x, Ops.WAIT, 0, 0), 3), 1);
        Ops.retell(x, 1, Ops.DO, 0, 0);
        due.is("waits in a part", x.tried(Ops.play(x, 1), 3), 2);
        Ops.retell(x, 1, Ops.DO, 1, 0);
        due.is("as long as may be", x.tried(Ops.play(x, 1), 3), 6);
        x.rule(2, 0, 0, 1);
        due.is("broken", x.tried(Ops.play(x, 2), 3), 0);
    }

    private static void triedNone() {
        SeedExchange x = new SeedExchange();
        x.number(0, 0);
        Ops.steps(x, 1, Ops.READ, 0, 0, Ops.WAIT, 0, 0);
        int t = x.submit(1);
        isNone("not tried yet", x, t);
        x.run(1);
        due.is("waits", x.tried(t, 0), 2);
        x.number(0, 0);
        x.clash(1, 3);
        x.run(1);
        due.is("given up", x.ticket(t, 0), Ops.GIVEN_UP);
        isNone("given up by clashes, though it waited before", x, t);
        t = Ops.play(x, 1);
        isNone("given up by clashes at once", x, t);
        int[] wrong = {-1, 4, LEAST, MOST};
        for (int what : wrong) {
            due.is("BAD is ahead of NONE", x.tried(t, what), Ops.BAD);
        }
    }

    private static void isNone(String text, SeedExchange x, int t) {
        for (int what = 0; what <= 3; what++) {
            due.is(text + ", tried " + what, x.tried(t, what), Ops.NONE);
        }
        due.is(text + ", way", x.way(t, 0, 0), Ops.NONE);
        due.is(text + ", read", x.read(t, 0), 0);
    }

    private static void wayNone() {
        SeedExchange x = new SeedExchange();
        Ops.steps(x, 15, Ops.PUT, 0, 0, Ops.FAIL, 0, 0);
        int t = Ops.play(x, 15);
        due.is("the first", x.way(t, 0, 0), 15);
        due.is("its step", x.way(t, 0, 1), 1);
        int[] none = {-1, 1, 2, 5, 6, LEAST, MOST};
        for (int i : none) {
            due.is("place " + i, x.way(t, i, 0), Ops.NONE);
            due.is("place " + i, x.way(t, i, 1), Ops.NONE);
            due.is("BAD is ahead of NONE", x.way(t, i, 2), Ops.BAD);
            due.is("BAD is ahead of NONE", x.way(t, i, -1), Ops.BAD);
            due.is("BAD is ahead of NONE", x.way(t + 1, i, 0), Ops.BAD);
        }
    }

    private static void reads() {
        SeedExchange x = new SeedExchange();
        x.number(0, 0);
        x.number(39, 0);
        int t = Ops.playSteps(x, Ops.READ, 0, 0, Ops.READ, 39, 0, Ops.READ, 31, 0);
        for (int c = 0; c < 40; c++) {
            due.is("cell " + c, x.read(t, c), c == 0 || c == 39 || c == 31 ? 1 : 0);
        }
        due.is("how many", x.tried(t, 1), 3);
        due.is("cell -1", x.read(t, -1), Ops.BAD);
        due.is("cell 40", x.read(t, 40), Ops.BAD);
        due.is("cell 64", x.read(t, 64), Ops.BAD);
        due.is("before it is tried", x.read(x.submit(0), 0), 0);
    }

    private static void wokenNone() {
        SeedExchange x = new SeedExchange();
        x.number(0, 0);
        Ops.steps(x, 1, Ops.READ, 0, 0, Ops.WAIT, 0, 0);
        int t = Ops.play(x, 1);
        due.is("not yet, cell", x.woken(t, 0), Ops.NONE);
        due.is("not yet, ticket", x.woken(t, 1), Ops.NONE);
        x.number(0, 0);
        due.is("told from outside, cell", x.woken(t, 0), 0);
        due.is("told from outside, ticket", x.woken(t, 1), Ops.NONE);
        x.run(1);
        due.is("kept as it waits again", x.woken(t, 0), 0);
        int[] wrong = {-1, 2, LEAST, MOST};
        for (int what : wrong) {
            due.is("what " + what, x.woken(t, what), Ops.BAD);
        }
    }

    private static void order() {
        SeedExchange x = new SeedExchange();
        due.is("none yet", x.order(0), Ops.NONE);
        x.number(0, 0);
        Ops.steps(x, 1, Ops.READ, 0, 0, Ops.WAIT, 0, 0);
        Ops.steps(x, 2, Ops.FAIL, 0, 0);
        Ops.play(x, 1);
        Ops.play(x, 2);
        Ops.play(x, 3);
        Ops.retell(x, 1, Ops.PUT, 0, 0);
        x.number(0, 0);
        x.run(1);
        due.is("the first effect", x.order(0), 2);
        due.is("the later one", x.order(1), 0);
        due.is("no more", x.order(2), Ops.NONE);
        for (int far : FAR) {
            due.is("order " + far, x.order(far), Ops.NONE);
        }
    }

    private static void noteNone() {
        SeedExchange x = new SeedExchange();
        due.is("none yet", x.note(0, 0), Ops.NONE);
        x.number(0, 1);
        Ops.playSteps(x, Ops.AFTER, 1, 0, Ops.AFTER, 0, 0);
        due.is("its ticket", x.note(0, 0), 0);
        due.is("its kind", x.note(0, 1), 1);
        due.is("the other's kind", x.note(1, 1), 0);
        due.is("no more", x.note(2, 0), Ops.NONE);
        int[] wrong = {-1, 2, LEAST, MOST};
        for (int what : wrong) {
            due.is("what " + what, x.note(0, what), Ops.BAD);
            due.is("BAD is ahead of NONE", x.note(2, what), Ops.BAD);
        }
        for (int far : FAR) {
            due.is("note " + far, x.note(far, 0), Ops.NONE);
            due.is("note " + far, x.note(far, 1), Ops.NONE);
        }
    }

    private static void notedNone() {
        SeedExchange x = new SeedExchange();
        due.is("none yet", x.noted(0), 0);
        Ops.playSteps(x, Ops.AFTER, 0, 9);
        due.is("the first", x.noted(0), 9);
        due.is("no more", x.noted(1), 0);
        for (int far : FAR) {
            due.is("note " + far, x.noted(far), 0);
        }
    }

    private static void counts() {
        SeedExchange x = new SeedExchange();
        for (int what = 0; what <= 7; what++) {
            due.is("at first " + what, x.count(what), 0);
        }
        x.number(0, 0);
        for (int i = 0; i < 21; i++) {
            Ops.steps(x, 0, Ops.AFTER, 0, 0);
        }
        Ops.steps(x, 1, Ops.READ, 0, 0, Ops.WAIT, 0, 0);
        x.rule(0, 0, 0, 0);
        x.clash(1, 1);
        int[] trades = {0, 0, 1, 1, 2, 2};
        for (int trade : trades) {
            x.submit(trade);
        }
        x.window(2);
        x.run(2);
        int[] all = {6, 2, 2, 2, 2, 6, 42, 1};
        for (int what = 0; what < all.length; what++) {
            due.is("count " + what, x.count(what), all[what]);
        }
        int[] wrong = {-1, 8, LEAST, MOST};
        for (int what : wrong) {
            due.is("count " + what, x.count(what), Ops.BAD);
        }
    }

    /** The digest with the cells from that one on, which hold nothing and were never told. */
    private static long withoutMore(int from, long digest) {
        long h = digest;
        for (int c = from; c < 40; c++) {
            h = behind(h, 0, 0, 0, -1, -1, -1);
        }
        return h;
    }

    private static long ofNothing() {
        return withoutMore(0, 17);
    }

    /** The digest with so many numbers more. */
    private static long behind(long digest, long... numbers) {
        long h = digest;
        for (long v : numbers) {
            h = 31 * h + v;
        }
        return h;
    }

    private static void digests() {
        SeedExchange x = new SeedExchange();
        due.is("empty", x.digest(), ofNothing());
        x.submit(3);
        due.is("one ready ticket", x.digest(), behind(ofNothing(), 0, 3, 0, 0, 0, -1, 0, 0, 0, 0, 0, 0, 0, 0));
        x.run(1);
        long tickets = behind(ofNothing(), 1, 3, 1, 0, 0, -1, 0, 0, 0, 0, 0, 0, 0, 0);
        due.is("one that is done", x.digest(), behind(tickets, 0));
        x.clash(3, 5);
        x.rule(0, 0, 0, 0);
        x.step(3, Ops.PUT, 0, 0);
        x.window(4);
        due.is("of what is not told in it", x.digest(), behind(tickets, 0));
        Ops.playSteps(x, Ops.FAIL, 5, 0);
        tickets = behind(tickets, 2, 0, 1, Ops.TOLD, 5, -1, 0, 0, 0, 0, 0, 0, 0, 0);
        due.is("one that failed", x.digest(), behind(tickets, 0));
        x.drop(0);
        for (int i = 1; i <= 9; i++) {
            Ops.steps(x, 0, Ops.PUT, i, 0, Ops.SAY, 0, 0);
        }
        Ops.play(x, 0);
        tickets = behind(tickets, 1, 0, 1, 0, 0, -1, 1, 2, 3, 4, 5, 6, 7, 8);
        due.is("one with answers, and the order", x.digest(), behind(tickets, 0, 2));
        x.rule(2, 0, 0, 1);
        Ops.play(x, 2);
        tickets = behind(tickets, 4, 2, 1, 0, 0, 1, 0, 0, 0, 0, 0, 0, 0, 0);
        due.is("one that is broken", x.digest(), behind(tickets, 0, 2));
    }

    private static void digestWraps() {
        long[] numbers = {Long.MIN_VALUE, Long.MAX_VALUE};
        for (long v : numbers) {
            SeedExchange x = new SeedExchange();
            x.number(0, v);
            due.is("number " + v, x.digest(), withoutMore(1, behind(17, 1, v, 1, -1, -1, -1)));
        }
    }
}
