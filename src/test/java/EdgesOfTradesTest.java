/** The sentences on trades and rules that name an edge, a test each (Terms 2 and 3; promises 10 to 13). */
public final class EdgesOfTradesTest {
    private static final int LEAST = Integer.MIN_VALUE, MOST = Integer.MAX_VALUE;
    private static final long MIN = Long.MIN_VALUE, MAX = Long.MAX_VALUE;
    private static final Due due = new Due();

    public static void main(String[] args) {
        due.sentence("TRADES 0 .. 15", EdgesOfTradesTest::firstAndLastTrade);
        due.sentence("rows of STEPS (24 at most)", EdgesOfTradesTest::twentyFourSteps);
        due.sentence("OP (0 .. 19)", EdgesOfTradesTest::ops);
        due.sentence("a CELL (1, 2, 3, 6, 8, 9: a", EdgesOfTradesTest::cellsOfA);
        due.sentence("10, 11: both)", EdgesOfTradesTest::cellsOfBoth);
        due.sentence("a of 13", EdgesOfTradesTest::skips);
        due.sentence("a TRADE (16, 17: a", EdgesOfTradesTest::tradesOfA);
        due.sentence("18: both)", EdgesOfTradesTest::tradesOfBoth);
        due.sentence("of 19: a is not 0, 1", EdgesOfTradesTest::kindsOfActs);
        due.sentence("b of kind 1 no CELL", EdgesOfTradesTest::cellsOfActs);
        due.sentence("What is not told of may be any number.", EdgesOfTradesTest::anyNumber);
        due.sentence("A TRADE has no STEPS: how many it had", EdgesOfTradesTest::dropped);
        due.sentence("TICKETS of it do what it has then", EdgesOfTradesTest::doneAsItIsThen);
        due.sentence("CLASHES of a TRADE (0 to 10): what they were", EdgesOfTradesTest::clashes);
        due.sentence("RULES 0, 1, .. (10 at most)", EdgesOfTradesTest::tenRules);
        due.sentence("BAD: the kind (0 .. 3)", EdgesOfTradesTest::kindsOfRules);
        due.sentence("a (0, 1: a CELL; 2, 3: 0 .. 7)", EdgesOfTradesTest::aOfRules);
        due.sentence("b (1: a CELL)", EdgesOfTradesTest::bOfRules);
        due.sentence("0: CELL a holds no NUMBER, or one of v or more", EdgesOfTradesTest::leastNumber);
        due.sentence("1: CELLS a and b do not both hold NUMBERS, or that of a is not above that of b",
                EdgesOfTradesTest::notAbove);
        due.sentence("2: GRAMS of all LOTS of KIND a together are v or more", EdgesOfTradesTest::gramsOfKind);
        due.sentence("3: as 2, but of GROWER a", EdgesOfTradesTest::gramsOfGrower);
        due.end();
    }

    private static void firstAndLastTrade() {
        int[] edges = {0, 15};
        for (int trade : edges) {
            SeedExchange x = new SeedExchange();
            due.is("step", x.step(trade, Ops.PUT, 7, 0), 1);
            due.is("step", x.step(trade, Ops.SAY, 0, 0), 2);
            due.is("clash", x.clash(trade, 1), 0);
            int t = Ops.play(x, trade);
            due.is("answer", x.answer(t, 0), 7);
            due.is("tries", x.ticket(t, 6), 2);
            for (int other = 0; other < 16; other++) {
                due.is("drop " + other, x.drop(other), other == trade ? 2 : 0);
                due.is("clash " + other, x.clash(other, 0), other == trade ? 1 : 0);
            }
        }
    }

    private static void twentyFourSteps() {
        int[] trades = {0, 14, 15};
        SeedExchange x = new SeedExchange();
        for (int trade : trades) {
            for (int i = 1; i <= 24; i++) {
                due.is("step " + i, x.step(trade, Ops.MORE, 1, 0), i);
            }
            due.is("the 25th", x.step(trade, Ops.FAIL, 1, 0), Ops.FULL);
            due.is("the 26th", x.step(trade, Ops.FAIL, 1, 0), Ops.FULL);
        }
        Ops.steps(x, 1, Ops.DO, 15, 0, Ops.SAY, 0, 0);
        int t = Ops.play(x, 1);
        due.is("24 are done", x.answer(t, 0), 24);
        due.is("24 are done", x.tried(t, 0), 26);
        due.is("BAD is ahead of FULL", x.step(0, 20, 0, 0), Ops.BAD);
        due.is("24 there were", x.drop(0), 24);
        due.is("no more full", x.step(0, Ops.PUT, 0, 0), 1);
        due.is("another one is full", x.step(15, Ops.PUT, 0, 0), Ops.FULL);
    }

    private static void ops() {
        SeedExchange x = new SeedExchange();
        for (int op = 0; op <= 19; op++) {
            due.is("op " + op, x.step(0, op, 0, 0), op + 1);
        }
        int[] none = {-1, 20, LEAST, MOST};
        for (int op : none) {
            due.is("op " + op, x.step(0, op, 0, 0), Ops.BAD);
        }
        due.is("how many", x.drop(0), 20);
    }

    /** Which of the ten numbers step takes as a, or as b, the other one being fine. */
    private static void takes(int op, boolean isA, int fine, int most) {
        int[] numbers = {0, 1, most - 1, most, -1, -2, most + 1, most + 2, LEAST, MOST};
        SeedExchange x = new SeedExchange();
        int many = 0;
        for (int v : numbers) {
            boolean fits = v >= 0 && v <= most;
            many += fits ? 1 : 0;
            int got = isA ? x.step(3, op, v, fine) : x.step(3, op, fine, v);
            due.is("op " + op + (isA ? ", a " : ", b ") + v, got, fits ? many : Ops.BAD);
        }
        due.is("how many", x.drop(3), many);
    }

    private static void cellsOfA() {
        int[] all = {Ops.READ, Ops.WRITE, Ops.ADD, Ops.PART, Ops.BELOW, Ops.GRAMS};
        for (int op : all) {
            takes(op, true, -7, 39);
        }
    }

    private static void cellsOfBoth() {
        int[] all = {Ops.GIVE, Ops.SWAP};
        for (int op : all) {
            takes(op, true, 39, 39);
            takes(op, false, 39, 39);
            due.is("neither", new SeedExchange().step(0, op, 40, 40), Ops.BAD);
        }
    }

    private static void skips() {
        takes(Ops.SKIP, true, -7, 24);
    }

    private static void tradesOfA() {
        takes(Ops.DO, true, -7, 15);
        takes(Ops.CATCH, true, -7, 15);
    }

    private static void tradesOfBoth() {
        takes(Ops.OR, true, 15, 15);
        takes(Ops.OR, false, 15, 15);
        due.is("neither", new SeedExchange().step(0, Ops.OR, 16, 16), Ops.BAD);
    }

    private static void kindsOfActs() {
        takes(Ops.AFTER, true, 39, 1);
    }

    private static void cellsOfActs() {
        takes(Ops.AFTER, false, 1, 39);
    }

    private static void anyNumber() {
        int[] far = {LEAST, -1, 40, MOST};
        int[] both = {Ops.PUT, Ops.MORE, Ops.TIMES, Ops.AT, Ops.SAY, Ops.FAIL, Ops.WAIT};
        for (int op : both) {
            SeedExchange x = new SeedExchange();
            for (int i = 0; i < far.length; i++) {
                due.is("op " + op, x.step(0, op, far[i], far[i]), i + 1);
            }
        }
        int[] b = {Ops.READ, Ops.WRITE, Ops.ADD, Ops.PART, Ops.BELOW, Ops.GRAMS, Ops.SKIP, Ops.DO, Ops.CATCH, Ops.AFTER};
        for (int op : b) {
            SeedExchange x = new SeedExchange();
            for (int i = 0; i < far.length; i++) {
                due.is("b of op " + op, x.step(0, op, 0, far[i]), i + 1);
            }
        }
        SeedExchange x = new SeedExchange();
        int[] others = {0, 2, 3};
        for (int i = 0; i < others.length; i++) {
            due.is("b of a rule", x.rule(others[i], 0, far[i], 0), i);
        }
        due.is("v of a rule", x.rule(1, 0, 0, MIN), 3);
    }

    private static void dropped() {
        SeedExchange x = new SeedExchange();
        due.is("none", x.drop(5), 0);
        x.step(5, Ops.PUT, 0, 0);
        due.is("one", x.drop(5), 1);
        due.is("none again", x.drop(5), 0);
        for (int i = 0; i < 24; i++) {
            x.step(5, Ops.FAIL, 0, 0);
        }
        due.is("all", x.drop(5), 24);
        int t = Ops.play(x, 5);
        due.is("without steps", x.ticket(t, 0), Ops.DONE);
        due.is("without steps", x.tried(t, 0), 0);
        due.is("from 1 on again", x.step(5, Ops.PUT, 0, 0), 1);
        x.clash(5, 2);
        x.drop(5);
        due.is("clashes stay", x.clash(5, 0), 2);
    }

    private static void doneAsItIsThen() {
        SeedExchange x = new SeedExchange();
        x.number(0, 0);
        Ops.retell(x, 1, Ops.READ, 0, 0, Ops.WAIT, 0, 0);
        int waits = Ops.play(x, 1);
        int ready = x.submit(1);
        Ops.retell(x, 1, Ops.PUT, 6, 0, Ops.SAY, 0, 0);
        x.run(1);
        due.is("one that was ready", x.answer(ready, 0), 6);
        due.is("one that waits goes on waiting", x.ticket(waits, 0), Ops.WAITING);
        x.number(0, 0);
        x.step(1, Ops.SAY, 0, 0);
        x.run(1);
        due.is("one that waited", x.answer(waits, 1), 6);
        due.is("one that was done stays", x.answer(ready, 1), 0);
    }

    private static void clashes() {
        SeedExchange x = new SeedExchange();
        int was = 0;
        for (int many = 0; many <= 10; many++) {
            due.is("clash " + many, x.clash(3, many), was);
            was = many;
        }
        int[] wrong = {-1, 11, LEAST, MOST};
        for (int many : wrong) {
            due.is("clash " + many, x.clash(3, many), Ops.BAD);
        }
        due.is("they stay", x.clash(3, 0), 10);
        due.is("none again", x.clash(3, 0), 0);
    }

    private static void tenRules() {
        SeedExchange x = new SeedExchange();
        for (int i = 0; i < 10; i++) {
            due.is("rule " + i, x.rule(0, 1, 0, i), i);
            due.is("count", x.count(7), i + 1);
        }
        due.is("the 11th", x.rule(0, 0, 0, 0), Ops.FULL);
        due.is("the 12th", x.rule(0, 0, 0, 0), Ops.FULL);
        due.is("BAD is ahead of FULL", x.rule(4, 0, 0, 0), Ops.BAD);
        due.is("count", x.count(7), 10);
        x.number(0, -1);
        x.number(1, 9);
        brokenBy("the 11th is none", x, Ops.NONE);
        x.number(1, 8);
        brokenBy("the 10th is one", x, 9);
    }

    private static void kindsOfRules() {
        SeedExchange x = new SeedExchange();
        for (int kind = 0; kind <= 3; kind++) {
            due.is("kind " + kind, x.rule(kind, 0, 0, 0), kind);
        }
        int[] none = {-1, 4, LEAST, MOST};
        for (int kind : none) {
            due.is("kind " + kind, x.rule(kind, 0, 0, 0), Ops.BAD);
        }
        due.is("how many", x.count(7), 4);
    }

    private static void aOfRules() {
        for (int kind = 0; kind <= 3; kind++) {
            SeedExchange x = new SeedExchange();
            int most = kind < 2 ? 39 : 7;
            due.is("the least a", x.rule(kind, 0, 0, 0), 0);
            due.is("the most a", x.rule(kind, most, 0, 0), 1);
            int[] none = {-1, most + 1, LEAST, MOST};
            for (int a : none) {
                due.is("kind " + kind + ", a " + a, x.rule(kind, a, 0, 0), Ops.BAD);
            }
            due.is("how many", x.count(7), 2);
        }
    }

    private static void bOfRules() {
        SeedExchange x = new SeedExchange();
        due.is("the least b", x.rule(1, 39, 0, 0), 0);
        due.is("the most b", x.rule(1, 0, 39, 0), 1);
        due.is("a is b", x.rule(1, 5, 5, 0), 2);
        int[] none = {-1, 40, LEAST, MOST};
        for (int b : none) {
            due.is("b " + b, x.rule(1, 0, b, 0), Ops.BAD);
        }
        due.is("how many", x.count(7), 3);
    }

    /** A ticket that writes nothing is BROKEN by what stands. */
    private static void brokenBy(String text, SeedExchange x, int want) {
        int t = Ops.play(x, 15);
        due.is(text, x.ticket(t, 5), want);
        due.is(text, x.ticket(t, 0), want == Ops.NONE ? Ops.DONE : Ops.BROKEN);
    }

    private static void leastNumber() {
        long[][] rows = {{5, 5, 1}, {4, 5, 0}, {6, 5, 1}, {MIN, MIN, 1}, {MIN, MIN + 1, 0}, {MAX, MAX, 1}, {MAX - 1, MAX, 0},
            {MIN, MAX, 0}, {MAX, MIN, 1}, {0, 0, 1}, {-1, 0, 0}};
        for (long[] row : rows) {
            SeedExchange x = new SeedExchange();
            x.rule(0, 39, 0, row[1]);
            x.number(39, row[0]);
            brokenBy(row[0] + " of at least " + row[1], x, row[2] == 1 ? Ops.NONE : 0);
        }
        SeedExchange x = new SeedExchange();
        x.rule(0, 0, 0, MAX);
        brokenBy("nothing", x, Ops.NONE);
        x.lot(0, 0, 0, 1);
        brokenBy("a lot", x, Ops.NONE);
        x.number(0, 1);
        brokenBy("a number", x, 0);
    }

    private static void notAbove() {
        long[][] rows = {{5, 5, 1}, {6, 5, 0}, {4, 5, 1}, {MAX, MIN, 0}, {MIN, MAX, 1}, {MAX, MAX, 1}, {MIN, MIN, 1}};
        for (long[] row : rows) {
            SeedExchange x = new SeedExchange();
            x.rule(1, 39, 0, 0);
            x.number(39, row[0]);
            x.number(0, row[1]);
            brokenBy(row[0] + " not above " + row[1], x, row[2] == 1 ? Ops.NONE : 0);
        }
        SeedExchange x = new SeedExchange();
        x.rule(1, 0, 1, 0);
        x.number(0, 5);
        brokenBy("b holds nothing", x, Ops.NONE);
        x.lot(1, 0, 0, 4);
        brokenBy("b holds a lot", x, Ops.NONE);
        x.number(1, 4);
        brokenBy("both numbers", x, 0);
        x.lot(0, 0, 0, 5);
        brokenBy("a holds a lot", x, Ops.NONE);
        x.empty(0);
        x.number(1, -4);
        brokenBy("a holds nothing", x, Ops.NONE);
        SeedExchange y = new SeedExchange();
        y.rule(1, 3, 3, 0);
        y.number(3, MAX);
        brokenBy("a is b", y, Ops.NONE);
    }

    /** Rules of kind 2 (by kind) and 3 (by grower), on cells 0 and 39. */
    private static void gramsTogether(int ruleKind) {
        int of = 7;
        int other = 0;
        long[][] rows = {{0, 0, 0, 1}, {0, 0, 1, 0}, {6, 4, 10, 1}, {6, 4, 11, 0}, {6, 4, 9, 1}, {0, 0, -1, 1}, {0, 0, MIN, 1},
            {Ops.MOST_GRAMS, Ops.MOST_GRAMS, MAX, 0}, {Ops.MOST_GRAMS, Ops.MOST_GRAMS, 2000000000L, 1},
            {Ops.MOST_GRAMS, Ops.MOST_GRAMS, 2000000001L, 0}};
        for (long[] row : rows) {
            SeedExchange x = new SeedExchange();
            x.rule(ruleKind, of, 0, row[2]);
            tellLot(x, 0, ruleKind, of, (int) row[0]);
            tellLot(x, 39, ruleKind, of, (int) row[1]);
            tellLot(x, 20, ruleKind, other, Ops.MOST_GRAMS);
            x.number(21, MAX);
            brokenBy(row[0] + " and " + row[1] + " of at least " + row[2], x, row[3] == 1 ? Ops.NONE : 0);
        }
        SeedExchange none = new SeedExchange();
        none.rule(ruleKind, other, 0, 0);
        brokenBy("no lots, v is 0", none, Ops.NONE);
        none.rule(ruleKind, other, 0, 1);
        brokenBy("no lots, v is 1", none, 1);
        SeedExchange all = new SeedExchange();
        for (int c = 0; c < 40; c++) {
            tellLot(all, c, ruleKind, of, Ops.MOST_GRAMS);
        }
        all.rule(ruleKind, of, 0, 40000000000L);
        brokenBy("all cells full", all, Ops.NONE);
        all.rule(ruleKind, of, 0, 40000000001L);
        brokenBy("one above all", all, 1);
    }

    private static void tellLot(SeedExchange x, int cell, int ruleKind, int of, int grams) {
        if (ruleKind == 2) {
            x.lot(cell, of, 3, grams);
        } else {
            x.lot(cell, 3, of, grams);
        }
    }

    private static void gramsOfKind() {
        gramsTogether(2);
    }

    private static void gramsOfGrower() {
        gramsTogether(3);
    }
}
