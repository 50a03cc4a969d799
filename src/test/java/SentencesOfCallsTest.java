/** The sentences on what the calls answer that name no edge, a test each (promises 1 to 27). */
public final class SentencesOfCallsTest {
    private static final Due due = new Due();

    public static void main(String[] args) {
        due.sentence("Refusals, the first that fits: BAD -2", SentencesOfCallsTest::firstThatFits);
        due.sentence("All CELLS hold NOTHING;", SentencesOfCallsTest::newCells);
        due.sentence("A CELL is told a NUMBER: its VERSION.", SentencesOfCallsTest::toldNumbers);
        due.sentence("A CELL is told a LOT: its VERSION.", SentencesOfCallsTest::toldLots);
        due.sentence("A CELL is told NOTHING: its VERSION.", SentencesOfCallsTest::toldNothing);
        due.sentence("What a CELL holds:", SentencesOfCallsTest::held);
        due.sentence("The NUMBER of a CELL, or the GRAMS of its LOT;", SentencesOfCallsTest::values);
        due.sentence("Of a CELL: 0 its VERSION, 1 its WRITER, 2 the KIND of its LOT,", SentencesOfCallsTest::ofACell);
        due.sentence("The i-th (from 0)", SentencesOfCallsTest::histories);
        due.sentence("A STEP more of a TRADE: how many.", SentencesOfCallsTest::howManySteps);
        due.sentence("A RULE more: its number.", SentencesOfCallsTest::numbersOfRules);
        due.sentence("WINDOW: what it was.", SentencesOfCallsTest::windowBefore);
        due.sentence("Of a TICKET: 0 its state, 1 its TRADE, 2 TURNS,", SentencesOfCallsTest::ofATicket);
        due.sentence("ANSWER i of a TICKET that is DONE;", SentencesOfCallsTest::answers);
        due.sentence("Of its latest TRY that counted (by which it is FAILED, WAITING, DONE, BROKEN;", SentencesOfCallsTest::latestThatCounted);
        due.sentence("0 STEPS, 1 how many CELLS it READ,", SentencesOfCallsTest::stepsAndReads);
        due.sentence("Of the i-th (from 0) of its WAY: 0 the TRADE,", SentencesOfCallsTest::placesOfAWay);
        due.sentence("By what a TICKET was WOKEN last: 0 the CELL, 1 the TICKET", SentencesOfCallsTest::wokenLast);
        due.sentence("Of NOTE i: 0 the TICKET,", SentencesOfCallsTest::notes);
        due.sentence("How many: 0 TICKETS, 1 READY ones, 2 WAITING ones, 3 EFFECTS, 4 ROUNDS, 5 TRIES,", SentencesOfCallsTest::counted);
        due.sentence(", 7 RULES.", SentencesOfCallsTest::countedRules);
        due.sentence("of each CELL holds(), value(), cell() 0 to 3; of each TICKET ticket() 0 to 5, answer() 0 to 7; order() of each EFFECT;",
                SentencesOfCallsTest::digestOfAll);
        due.end();
    }

    private static void firstThatFits() {
        SeedExchange x = new SeedExchange();
        for (int i = 0; i < 24; i++) {
            x.step(2, Ops.SAY, 0, 0);
        }
        for (int i = 0; i < 10; i++) {
            x.rule(0, 0, 0, 0);
        }
        for (int i = 0; i < 20; i++) {
            x.submit(0);
        }
        due.is("a step of a full trade", x.step(2, Ops.READ, 39, 0), SeedExchange.FULL);
        due.is("a bad step of a full trade", x.step(2, Ops.READ, 40, 0), SeedExchange.BAD);
        due.is("no op, of a full trade", x.step(2, 20, 0, 0), SeedExchange.BAD);
        due.is("a rule beyond the last", x.rule(1, 0, 39, 0), SeedExchange.FULL);
        due.is("a bad rule beyond the last", x.rule(1, 0, 40, 0), SeedExchange.BAD);
        due.is("a ticket beyond the last", x.submit(15), SeedExchange.FULL);
        due.is("a bad ticket beyond the last", x.submit(16), SeedExchange.BAD);
        due.is("BAD", SeedExchange.BAD, -2);
        due.is("FULL", SeedExchange.FULL, -3);
    }

    private static void newCells() {
        SeedExchange x = new SeedExchange();
        for (int c = 0; c < 40; c++) {
            due.is("holds " + c, x.holds(c), 0);
            due.is("value " + c, x.value(c), 0);
            due.is("writer " + c, x.cell(c, 1), Ops.NONE);
            due.is("kind " + c, x.cell(c, 2), Ops.NONE);
            due.is("grower " + c, x.cell(c, 3), Ops.NONE);
            due.is("history " + c, x.history(c, 0), Ops.NONE);
        }
        for (int of = 0; of < 8; of++) {
            due.is("of kind " + of, x.stock(0, of), 0);
            due.is("of grower " + of, x.stock(1, of), 0);
        }
    }

    private static void toldNumbers() {
        SeedExchange x = new SeedExchange();
        due.is("told", x.number(3, 8), 1);
        due.is("told again", x.number(3, 9), 2);
        due.is("another", x.number(4, 9), 1);
        Ops.playSteps(x, Ops.WRITE, 3, 0);
        due.is("behind an effect", x.number(3, 0), 4);
        x.lot(3, 1, 1, 1);
        due.is("over a lot", x.number(3, 7), 6);
        due.is("it holds it", x.value(3), 7);
        due.is("a number", x.holds(3), 1);
        due.is("the lot is gone", x.stock(0, 1), 0);
        due.is("the version is told", x.cell(3, 0), 6);
    }

    private static void toldLots() {
        SeedExchange x = new SeedExchange();
        due.is("told", x.lot(3, 1, 2, 8), 1);
        due.is("told again", x.lot(3, 4, 5, 9), 2);
        due.is("grams", x.value(3), 9);
        due.is("kind", x.cell(3, 2), 4);
        due.is("grower", x.cell(3, 3), 5);
        due.is("the earlier one is gone", x.stock(0, 1) + x.stock(1, 2), 0);
        due.is("the later one", x.stock(0, 4) + x.stock(1, 5), 18);
        Ops.playSteps(x, Ops.WRITE, 3, 0);
        due.is("over a number", x.lot(3, 0, 0, 0), 4);
        due.is("a lot", x.holds(3), 2);
    }

    private static void toldNothing() {
        SeedExchange x = new SeedExchange();
        due.is("told", x.empty(3), 1);
        x.number(3, 1);
        due.is("over a number", x.empty(3), 3);
        due.is("nothing", x.holds(3), 0);
        x.lot(3, 1, 1, 1);
        due.is("over a lot", x.empty(3), 5);
        due.is("nothing", x.holds(3), 0);
        due.is("no grams", x.stock(0, 1), 0);
        Ops.playSteps(x, Ops.WRITE, 3, 0);
        due.is("over what an effect wrote", x.empty(3), 7);
        due.is("no writer", x.cell(3, 1), Ops.NONE);
        due.is("but a history", x.history(3, 0), 0);
    }

    private static void held() {
        SeedExchange x = new SeedExchange();
        x.number(1, 0);
        x.lot(2, 0, 0, 0);
        due.is("nothing", x.holds(0), 0);
        due.is("a number, though 0", x.holds(1), 1);
        due.is("a lot, though empty", x.holds(2), 2);
        Ops.playSteps(x, Ops.SWAP, 0, 1, Ops.SWAP, 1, 2);
        due.is("the number", x.holds(0), 1);
        due.is("the lot", x.holds(1), 2);
        due.is("the nothing", x.holds(2), 0);
    }

    private static void values() {
        SeedExchange x = new SeedExchange();
        x.number(1, -77);
        x.lot(2, 3, 4, 55);
        due.is("nothing", x.value(0), 0);
        due.is("the number", x.value(1), -77);
        due.is("the grams", x.value(2), 55);
        Ops.playSteps(x, Ops.SWAP, 0, 1, Ops.PUT, 6, 0, Ops.WRITE, 2, 0);
        due.is("the number went", x.value(0), -77);
        due.is("nothing came", x.value(1), 0);
        due.is("the number written", x.value(2), 6);
    }

    private static void ofACell() {
        SeedExchange x = new SeedExchange();
        x.lot(1, 3, 4, 55);
        x.lot(2, 3, 6, 55);
        x.lot(2, 3, 6, 55);
        x.submit(5);
        int t = x.submit(0);
        Ops.steps(x, 0, Ops.PUT, 1, 0, Ops.GIVE, 1, 2);
        x.run(2);
        due.is("its version", x.cell(2, 0), 3);
        due.is("its writer", x.cell(2, 1), t);
        due.is("its kind", x.cell(2, 2), 3);
        due.is("its grower", x.cell(2, 3), 6);
        due.is("the other's version", x.cell(1, 0), 2);
        due.is("the other's grower", x.cell(1, 3), 4);
    }

    private static void histories() {
        SeedExchange x = new SeedExchange();
        Ops.steps(x, 1, Ops.WRITE, 1, 0);
        Ops.steps(x, 2, Ops.WRITE, 2, 0, Ops.WRITE, 1, 0);
        Ops.steps(x, 3, Ops.WRITE, 1, 0, Ops.FAIL, 0, 0);
        int[] trades = {1, 3, 2, 0, 1};
        for (int trade : trades) {
            Ops.play(x, trade);
        }
        x.number(1, 0);
        int[] wrote = {0, 2, 4, Ops.NONE};
        for (int i = 0; i < wrote.length; i++) {
            due.is("cell 1, " + i, x.history(1, i), wrote[i]);
        }
        due.is("cell 2", x.history(2, 0), 2);
        due.is("cell 2, no more", x.history(2, 1), Ops.NONE);
        due.is("cell 0", x.history(0, 0), Ops.NONE);
    }

    private static void howManySteps() {
        SeedExchange x = new SeedExchange();
        for (int i = 1; i <= 24; i++) {
            due.is("trade 7", x.step(7, i % 20, 0, 0), i);
        }
        due.is("another trade", x.step(6, 0, 0, 0), 1);
        due.is("and once more", x.step(6, 0, 0, 0), 2);
        due.is("how many it had", x.drop(7), 24);
        due.is("anew", x.step(7, 0, 0, 0), 1);
        due.is("the other stays", x.drop(6), 2);
    }

    private static void numbersOfRules() {
        SeedExchange x = new SeedExchange();
        for (int i = 0; i < 10; i++) {
            due.is("rule", x.rule(i % 4, 0, 0, 0), i);
        }
        SeedExchange y = new SeedExchange();
        y.number(0, 5);
        y.rule(0, 0, 0, 5);
        y.rule(0, 0, 0, 6);
        due.is("by its number", y.ticket(Ops.play(y, 0), 5), 1);
        due.is("the same once more", y.rule(0, 0, 0, 6), 2);
        due.is("the least yet", y.ticket(Ops.play(y, 0), 5), 1);
    }

    private static void windowBefore() {
        SeedExchange x = new SeedExchange();
        int[] widths = {4, 1, 3, 3, 2};
        int was = 1;
        for (int w : widths) {
            due.is("window " + w, x.window(w), was);
            was = w;
        }
        for (int i = 0; i < 6; i++) {
            x.submit(0);
        }
        due.is("turns of a round", x.run(1), 2);
        due.is("a round does not change it", x.window(3), 2);
        due.is("turns of the next", x.run(1), 3);
    }

    private static void ofATicket() {
        SeedExchange x = new SeedExchange();
        x.number(0, 0);
        Ops.steps(x, 9, Ops.READ, 0, 0, Ops.WAIT, 0, 0);
        int t = x.submit(9);
        int[] states = {Ops.READY, Ops.WAITING, Ops.READY, Ops.WAITING, Ops.READY};
        for (int i = 0; i < states.length; i++) {
            due.is("state", x.ticket(t, 0), states[i]);
            due.is("trade", x.ticket(t, 1), 9);
            due.is("turns", x.ticket(t, 2), (i + 1) / 2);
            if (i % 2 == 0) {
                x.run(1);
            } else {
                x.number(0, 0);
            }
        }
        x.drop(9);
        due.is("its trade without steps", x.ticket(t, 1), 9);
        x.number(0, 0);
        x.run(1);
        due.is("does what it has then", x.ticket(t, 0), Ops.DONE);
        due.is("turns", x.ticket(t, 2), 4);
    }

    private static void answers() {
        SeedExchange x = new SeedExchange();
        for (int i = 0; i < 8; i++) {
            Ops.steps(x, 1, Ops.PUT, 100 + i, 0, Ops.SAY, 0, 0);
        }
        Ops.steps(x, 2, Ops.PUT, -1, 0, Ops.SAY, 0, 0);
        Ops.play(x, 1);
        Ops.play(x, 2);
        for (int i = 0; i < 8; i++) {
            due.is("answer " + i, x.answer(0, i), 100 + i);
            due.is("of the other " + i, x.answer(1, i), i == 0 ? -1 : 0);
        }
    }

    private static void latestThatCounted() {
        SeedExchange x = new SeedExchange();
        x.number(0, 0);
        x.rule(0, 1, 0, 0);
        Ops.steps(x, 1, Ops.READ, 0, 0, Ops.FAIL, 0, 0);
        Ops.steps(x, 2, Ops.READ, 0, 0, Ops.PUT, 1, 0, Ops.WAIT, 0, 0);
        Ops.steps(x, 3, Ops.PUT, 1, 0, Ops.WRITE, 1, 0, Ops.SAY, 0, 0, Ops.SAY, 0, 0);
        Ops.steps(x, 4, Ops.PUT, -1, 0, Ops.WRITE, 1, 0, Ops.WRITE, 2, 0, Ops.SAY, 0, 0, Ops.SAY, 0, 0);
        int[][] tried = {{2, 1, 0, 1}, {3, 1, 0, 1}, {4, 0, 1, 0}, {5, 0, 2, 0}};
        int[] states = {Ops.FAILED, Ops.WAITING, Ops.DONE, Ops.BROKEN};
        for (int t = 0; t < 4; t++) {
            x.clash(t + 1, 2);
            Ops.play(x, t + 1);
            due.is("state", x.ticket(t, 0), states[t]);
            due.is("three tries", x.ticket(t, 6), 3);
            for (int what = 0; what <= 3; what++) {
                due.is("tried " + what, x.tried(t, what), tried[t][what]);
            }
        }
        for (int turn = 2; turn <= 5; turn++) {
            Ops.retell(x, 2, Ops.READ, 0, 0, Ops.WAIT, 0, 0);
            x.number(0, 0);
            x.run(1);
        }
        due.is("given up, but not by clashes", x.ticket(1, 0), Ops.GIVEN_UP);
        due.is("its latest try", x.tried(1, 0), 2);
        due.is("its way", x.way(1, 0, 1), 1);
    }

    private static void stepsAndReads() {
        SeedExchange x = new SeedExchange();
        x.number(0, 0);
        x.number(1, 0);
        Ops.steps(x, 1, Ops.READ, 0, 0, Ops.READ, 1, 0, Ops.READ, 0, 0);
        int t = Ops.playSteps(x, Ops.DO, 1, 0, Ops.WRITE, 2, 0, Ops.READ, 2, 0, Ops.DO, 1, 0);
        due.is("steps", x.tried(t, 0), 4 + 6);
        due.is("cells that it read", x.tried(t, 1), 2);
        t = Ops.play(x, 3);
        due.is("no steps", x.tried(t, 0), 0);
        due.is("none read", x.tried(t, 1), 0);
    }

    private static void placesOfAWay() {
        SeedExchange x = new SeedExchange();
        for (int trade = 10; trade < 15; trade++) {
            for (int i = 10; i < trade; i++) {
                Ops.steps(x, trade, Ops.PUT, 0, 0);
            }
            Ops.steps(x, trade, Ops.DO, trade + 1, 0);
        }
        Ops.steps(x, 15, Ops.FAIL, 0, 0);
        int t = Ops.play(x, 10);
        due.is("six", x.tried(t, 3), 6);
        for (int i = 0; i < 6; i++) {
            due.is("trade " + i, x.way(t, i, 0), 10 + i);
            due.is("step " + i, x.way(t, i, 1), i < 5 ? i : 0);
        }
        t = Ops.play(x, 15);
        due.is("another ticket's own", x.way(t, 0, 0), 15);
        due.is("that is all", x.way(t, 1, 0), Ops.NONE);
        due.is("the first keeps its own", x.way(0, 1, 0), 11);
    }

    private static void wokenLast() {
        SeedExchange x = new SeedExchange();
        x.number(3, 0);
        x.number(5, 0);
        Ops.steps(x, 1, Ops.READ, 5, 0, Ops.READ, 3, 0, Ops.WAIT, 0, 0);
        Ops.steps(x, 2, Ops.WRITE, 5, 0, Ops.WRITE, 3, 0);
        int t = Ops.play(x, 1);
        x.number(5, 0);
        wokenIs("told", x, t, 5, Ops.NONE);
        x.number(3, 0);
        wokenIs("told again as it is ready", x, t, 5, Ops.NONE);
        x.run(1);
        int by = Ops.play(x, 2);
        wokenIs("by an effect", x, t, 3, by);
        x.run(1);
        wokenIs("as it waits again", x, t, 3, by);
        x.lot(3, 0, 0, 0);
        wokenIs("told a lot", x, t, 3, Ops.NONE);
    }

    private static void wokenIs(String when, SeedExchange x, int t, int cell, int by) {
        due.is(when + ", cell", x.woken(t, 0), cell);
        due.is(when + ", ticket", x.woken(t, 1), by);
    }

    private static void notes() {
        SeedExchange x = new SeedExchange();
        x.submit(1);
        int t = x.submit(0);
        Ops.steps(x, 0, Ops.AFTER, 0, 7, Ops.AFTER, 0, 8);
        x.run(2);
        for (int i = 0; i < 2; i++) {
            due.is("its ticket", x.note(i, 0), t);
            due.is("its kind", x.note(i, 1), 0);
            due.is("it tells", x.noted(i), 7 + i);
        }
    }

    private static void counted() {
        SeedExchange x = new SeedExchange();
        x.number(0, 0);
        Ops.steps(x, 1, Ops.READ, 0, 0, Ops.WAIT, 0, 0);
        Ops.steps(x, 2, Ops.READ, 0, 0, Ops.MORE, 1, 0, Ops.WRITE, 0, 0);
        Ops.steps(x, 3, Ops.FAIL, 0, 0);
        int[] trades = {1, 3, 2, 2, 1};
        for (int trade : trades) {
            x.submit(trade);
        }
        x.window(4);
        countsAre("at first", x, 5, 5, 0, 0, 0, 0);
        x.run(1);
        countsAre("0 is woken by 2 ahead of 3", x, 5, 3, 0, 1, 1, 4);
        x.run(1);
        countsAre("0 waits, is woken by 3, and 4 is behind", x, 5, 2, 0, 2, 2, 4 + 3);
        x.run(1);
        countsAre("both wait", x, 5, 0, 2, 2, 3, 4 + 3 + 2);
        x.run(100);
        countsAre("none is ready", x, 5, 0, 2, 2, 3, 4 + 3 + 2);
    }

    private static void countsAre(String when, SeedExchange x, int... counts) {
        for (int what = 0; what < counts.length; what++) {
            due.is(when + ", count " + what, x.count(what), counts[what]);
        }
    }

    private static void countedRules() {
        SeedExchange x = new SeedExchange();
        for (int i = 1; i <= 12; i++) {
            x.rule(2, 0, 0, 0);
            due.is("rules", x.count(7), Math.min(i, 10));
        }
        x.rule(4, 0, 0, 0);
        due.is("a refused one", x.count(7), 10);
    }

    private static long with(long h, long... numbers) {
        long with = h;
        for (long v : numbers) {
            with = 31 * with + v;
        }
        return with;
    }

    private static void digestOfAll() {
        SeedExchange x = new SeedExchange();
        x.number(1, -5);
        x.lot(2, 3, 4, 50);
        x.lot(2, 3, 4, 50);
        Ops.steps(x, 1, Ops.READ, 1, 0, Ops.WAIT, 0, 0);
        Ops.steps(x, 2, Ops.READ, 1, 0, Ops.WRITE, 0, 0, Ops.SAY, 0, 0, Ops.PUT, 9, 0, Ops.SAY, 0, 0, Ops.AFTER, 0, 0);
        Ops.play(x, 1);
        Ops.play(x, 2);
        x.submit(3);
        long h = with(17, 1, -5, 1, 1, -1, -1);
        h = with(h, 1, -5, 1, -1, -1, -1);
        h = with(h, 2, 50, 2, -1, 3, 4);
        for (int c = 3; c < 40; c++) {
            h = with(h, 0, 0, 0, -1, -1, -1);
        }
        h = with(h, 3, 1, 1, 0, 0, -1, 0, 0, 0, 0, 0, 0, 0, 0);
        h = with(h, 1, 2, 1, 0, 0, -1, -5, 9, 0, 0, 0, 0, 0, 0);
        h = with(h, 0, 3, 0, 0, 0, -1, 0, 0, 0, 0, 0, 0, 0, 0);
        due.is("digest", x.digest(), with(h, 1));
        due.is("once more", x.digest(), with(h, 1));
    }
}
