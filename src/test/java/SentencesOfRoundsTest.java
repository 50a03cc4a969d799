/** The sentences on tickets, rounds, turns, effects and rules that name no edge, a test each (Terms 3). */
public final class SentencesOfRoundsTest {
    private static final Due due = new Due();

    public static void main(String[] args) {
        due.sentence("are of a TRADE: 0 READY, 1 DONE, 2 FAILED, 3 WAITING, 4 BROKEN, 5 GIVEN UP.", SentencesOfRoundsTest::states);
        due.sentence(", are TRIED, by number,", SentencesOfRoundsTest::triedByNumber);
        due.sentence("Then each of them by number has its TURN;", SentencesOfRoundsTest::turnsByNumber);
        due.sentence("but the ROUND ends ahead of one, if", SentencesOfRoundsTest::endsAheadOfOne);
        due.sentence("A TURN: if a CELL that its TRY READ", SentencesOfRoundsTest::onlyWhatItRead);
        due.sentence(", it is TRIED again, on the CELLS as they stand.", SentencesOfRoundsTest::triedAgain);
        due.sentence("Else, as the latest TRY ended: FAILED; WAITING; or it is to take EFFECT:", SentencesOfRoundsTest::asTheLatestEnded);
        due.sentence("if a RULE does not hold", SentencesOfRoundsTest::brokenOrNot);
        due.sentence("; else DONE.", SentencesOfRoundsTest::doneForGood);
        due.sentence("AN EFFECT: CELLS that were WRITTEN", SentencesOfRoundsTest::whatWasWrittenAlone);
        due.sentence("Then its acts are done, in order:", SentencesOfRoundsTest::actsInOrder);
        due.sentence(": the TICKET, the kind, and:", SentencesOfRoundsTest::notesOfTickets);
        due.sentence("Then TICKETS that are WAITING and", SentencesOfRoundsTest::wakesThoseThatWait);
        due.sentence("are READY,", SentencesOfRoundsTest::readyInTheirPlace);
        due.sentence("hold, or not, on all CELLS:", SentencesOfRoundsTest::onAllCells);
        due.end();
    }

    private static void submitAll(SeedExchange x, int... trades) {
        for (int trade : trades) {
            x.submit(trade);
        }
    }

    private static void statesAre(String when, SeedExchange x, int... states) {
        for (int t = 0; t < states.length; t++) {
            due.is(when + ", state of " + t, x.ticket(t, 0), states[t]);
        }
    }

    private static void states() {
        SeedExchange x = new SeedExchange();
        x.number(0, 0);
        x.rule(0, 0, 0, 0);
        Ops.steps(x, 2, Ops.FAIL, 0, 0);
        Ops.steps(x, 3, Ops.WAIT, 0, 0);
        Ops.steps(x, 4, Ops.PUT, -1, 0, Ops.WRITE, 0, 0);
        x.clash(5, 3);
        submitAll(x, 0, 1, 2, 3, 4, 5);
        statesAre("at first", x, 0, 0, 0, 0, 0, 0);
        x.run(3);
        statesAre("behind three rounds", x, 1, 1, 2, 0, 0, 0);
        x.run(100);
        statesAre("in the end", x, 1, 1, 2, 3, 4, 5);
        for (int t = 0; t < 6; t++) {
            due.is("its trade", x.ticket(t, 1), t);
        }
    }

    private static void triedByNumber() {
        SeedExchange x = new SeedExchange();
        x.number(0, 0);
        Ops.steps(x, 1, Ops.READ, 0, 0, Ops.WAIT, 0, 0);
        submitAll(x, 2, 1, 2, 1, 2, 2, 2);
        x.window(3);
        x.run(1);
        int[] first = {1, 1, 1, 0, 0, 0, 0};
        triesAre("the three least", x, first);
        x.run(1);
        int[] second = {1, 1, 1, 1, 1, 1, 0};
        triesAre("the next three", x, second);
        x.number(0, 1);
        x.run(1);
        int[] third = {1, 2, 1, 2, 1, 1, 1};
        triesAre("two woken ones and the last", x, third);
    }

    private static void triesAre(String when, SeedExchange x, int[] tries) {
        for (int t = 0; t < tries.length; t++) {
            due.is(when + ", tries of " + t, x.ticket(t, 6), tries[t]);
        }
    }

    private static void turnsByNumber() {
        SeedExchange x = new SeedExchange();
        x.window(4);
        // Each has the number ten times as much and one more: only by number comes 1234.
        x.number(0, 0);
        for (int trade = 1; trade <= 4; trade++) {
            Ops.steps(x, trade, Ops.READ, 0, 0, Ops.TIMES, 10, 0, Ops.MORE, trade, 0, Ops.WRITE, 0, 0, Ops.SAY, 0, 0);
        }
        submitAll(x, 1, 2, 3, 4);
        due.is("turns", x.run(1), 4);
        due.is("by number", x.value(0), 1234);
        for (int t = 0; t < 4; t++) {
            due.is("order", x.order(t), t);
            due.is("turns of each", x.ticket(t, 2), 1);
            due.is("history", x.history(0, t), t);
        }
        due.is("what the third said", x.answer(2, 0), 123);
        due.is("tries", x.count(5), 7);
    }

    private static void endsAheadOfOne() {
        SeedExchange x = new SeedExchange();
        x.number(0, 0);
        Ops.steps(x, 1, Ops.READ, 0, 0, Ops.WAIT, 0, 0);
        Ops.steps(x, 2, Ops.READ, 0, 0, Ops.MORE, 1, 0, Ops.WRITE, 0, 0);
        x.window(4);
        submitAll(x, 1, 2, 2, 2);
        // Each effect wakes ticket 0, so that each round ends ahead of the next one of it.
        int[] turns = {2, 2, 2, 1};
        int[] tries = {4, 4 + 3, 4 + 3 + 2, 4 + 3 + 2 + 1};
        for (int round = 0; round < turns.length; round++) {
            due.is("turns of round " + round, x.run(1), turns[round]);
            due.is("rounds", x.count(4), round + 1);
            due.is("tries", x.count(5), tries[round]);
        }
        due.is("ticket 0 waits", x.ticket(0, 0), Ops.WAITING);
        due.is("four turns of it", x.ticket(0, 2), 4);
        due.is("one turn of the last", x.ticket(3, 2), 1);
        due.is("three tries of the last", x.ticket(3, 6), 3);
        due.is("nothing was done twice", x.value(0), 3);
    }

    private static void onlyWhatItRead() {
        SeedExchange x = new SeedExchange();
        x.window(4);
        x.number(0, 1);
        x.number(1, 0);
        Ops.steps(x, 1, Ops.PUT, 2, 0, Ops.WRITE, 1, 0);
        // Reads cell 0 and then, by what that is, passes over the reading of cell 1.
        Ops.steps(x, 2, Ops.PUT, 0, 0, Ops.SKIP, 1, 0, Ops.READ, 1, 0, Ops.READ, 0, 0);
        // What is read in a part that is undone was read.
        Ops.steps(x, 3, Ops.CATCH, 4, 0);
        Ops.steps(x, 4, Ops.READ, 1, 0, Ops.FAIL, 0, 0);
        // What is looked at behind its own writing was not.
        Ops.steps(x, 5, Ops.WRITE, 1, 0, Ops.ADD, 1, 0, Ops.FAIL, 0, 0);
        submitAll(x, 1, 2, 3, 5);
        due.is("turns", x.run(1), 4);
        due.is("what it passed over", x.ticket(1, 6), 1);
        due.is("what was undone", x.ticket(2, 6), 2);
        due.is("what it had written", x.ticket(3, 6), 1);
    }

    private static void triedAgain() {
        SeedExchange x = new SeedExchange();
        x.window(3);
        x.number(0, 0);
        x.number(1, 50);
        Ops.steps(x, 1, Ops.PUT, 1, 0, Ops.WRITE, 0, 0, Ops.PUT, 60, 0, Ops.WRITE, 1, 0);
        Ops.steps(x, 2, Ops.READ, 0, 0, Ops.AT, 0, 0, Ops.SAY, 0, 0, Ops.AFTER, 0, 0);
        submitAll(x, 1, 2, 2);
        x.run(1);
        for (int t = 1; t <= 2; t++) {
            due.is("tries", x.ticket(t, 6), 2);
            due.is("answer of the latest", x.answer(t, 0), 60);
            due.is("no other", x.answer(t, 1), 0);
            due.is("steps of the latest", x.tried(t, 0), 4);
            due.is("read by the latest", x.tried(t, 1), 2);
            due.is("cell 1", x.read(t, 1), 1);
            due.is("acts of the latest alone", x.noted(t - 1), 60);
        }
        due.is("acts", x.count(6), 2);
        due.is("turns of it", x.ticket(1, 2), 1);
    }

    /** Ticket 0 changes cell 0; ticket 1 ends as cell 0 says, 0: fine, 1: FAIL, 2: WAIT. */
    private static SeedExchange endingBy(long first, int then) {
        SeedExchange x = new SeedExchange();
        x.window(2);
        x.number(0, first);
        Ops.steps(x, 1, Ops.PUT, then, 0, Ops.WRITE, 0, 0);
        Ops.steps(x, 3, Ops.FAIL, 6, 0);
        Ops.steps(x, 4, Ops.WAIT, 0, 0);
        Ops.steps(x, 2, Ops.READ, 0, 0, Ops.WRITE, 1, 0, Ops.SKIP, 5, 0, Ops.MORE, -1, 0, Ops.SKIP, 1, 0, Ops.DO, 4, 0);
        Ops.steps(x, 2, Ops.SKIP, 1, 0, Ops.PUT, 0, 0, Ops.READ, 0, 0, Ops.SKIP, 1, 0, Ops.DO, 3, 0);
        submitAll(x, 1, 2);
        x.run(1);
        return x;
    }

    private static void asTheLatestEnded() {
        int[] states = {Ops.DONE, Ops.FAILED, Ops.WAITING};
        for (int first = 0; first <= 2; first++) {
            for (int then = 0; then <= 2; then++) {
                SeedExchange x = endingBy(first, then);
                String when = first + " and then " + then;
                due.is("tries, " + when, x.ticket(1, 6), 2);
                due.is("state, " + when, x.ticket(1, 0), states[then]);
                due.is("failure, " + when, x.ticket(1, 3), then == 1 ? Ops.TOLD : 0);
                due.is("its a, " + when, x.ticket(1, 4), then == 1 ? 6 : 0);
                due.is("way, " + when, x.tried(1, 3), then == 0 ? 0 : 2);
                due.is("written, " + when, x.tried(1, 2), then == 0 ? 1 : 0);
                due.is("effects, " + when, x.count(3), then == 0 ? 2 : 1);
                due.is("cell 1, " + when, x.holds(1), then == 0 ? 1 : 0);
            }
        }
    }

    private static void brokenOrNot() {
        SeedExchange x = new SeedExchange();
        x.lot(0, 1, 2, 100);
        x.lot(1, 1, 3, 0);
        x.rule(2, 1, 0, 100);
        x.rule(3, 2, 0, 40);
        int t = Ops.playSteps(x, Ops.PUT, 60, 0, Ops.GIVE, 0, 1);
        due.is("both hold", x.ticket(t, 0), Ops.DONE);
        t = Ops.playSteps(x, Ops.PUT, 1, 0, Ops.GIVE, 0, 1);
        due.is("that of the grower would not", x.ticket(t, 0), Ops.BROKEN);
        due.is("by 1", x.ticket(t, 5), 1);
        due.is("grams stay", x.value(0), 40);
        t = Ops.playSteps(x, Ops.PUT, 1, 0, Ops.WRITE, 1, 0);
        due.is("that of the kind would not", x.ticket(t, 5), 0);
        due.is("its one turn", x.ticket(t, 2), 1);
        due.is("its one try", x.ticket(t, 6), 1);
        x.lot(2, 1, 2, 9);
        due.is("it is not tried again", x.run(1), 0);
        t = Ops.playSteps(x, Ops.PUT, 9, 0, Ops.GIVE, 2, 1);
        due.is("enough now", x.ticket(t, 0), Ops.DONE);
    }

    private static void doneForGood() {
        SeedExchange x = new SeedExchange();
        x.number(0, 0);
        int t = Ops.playSteps(x, Ops.READ, 0, 0, Ops.SAY, 0, 0);
        x.number(0, 5);
        Ops.retell(x, 0, Ops.FAIL, 0, 0);
        x.rule(0, 0, 0, 9);
        x.clash(0, 10);
        due.is("no turn more", x.run(100), 0);
        due.is("done", x.ticket(t, 0), Ops.DONE);
        due.is("its answer", x.answer(t, 0), 0);
        due.is("its turns", x.ticket(t, 2), 1);
        due.is("its place", x.order(0), t);
        due.is("not woken", x.woken(t, 0), Ops.NONE);
    }

    private static void whatWasWrittenAlone() {
        SeedExchange x = new SeedExchange();
        x.window(2);
        for (int c = 0; c < 6; c++) {
            x.number(c, c);
        }
        Ops.steps(x, 1, Ops.PUT, 70, 0, Ops.WRITE, 3, 0);
        Ops.steps(x, 2, Ops.READ, 4, 0, Ops.WRITE, 5, 0, Ops.READ, 2, 0);
        submitAll(x, 1, 2);
        x.run(1);
        long[] left = {0, 1, 2, 70, 4, 4};
        for (int c = 0; c < 6; c++) {
            due.is("cell " + c, x.value(c), left[c]);
            due.is("version of " + c, x.cell(c, 0), c == 3 || c == 5 ? 2 : 1);
        }
        due.is("tried once", x.ticket(1, 6), 1);
        due.is("what was read has no history", x.history(4, 0), Ops.NONE);
    }

    private static void actsInOrder() {
        SeedExchange x = new SeedExchange();
        x.number(0, 0);
        Ops.steps(x, 2, Ops.AFTER, 1, 0);
        Ops.steps(x, 3, Ops.AFTER, 0, 500, Ops.FAIL, 0, 0);
        int t = Ops.playSteps(x, Ops.PUT, 12, 0, Ops.AFTER, 1, 0, Ops.AFTER, 0, 1, Ops.DO, 2, 0, Ops.CATCH, 3, 0,
                Ops.AFTER, 0, 0, Ops.PUT, 5, 0, Ops.WRITE, 0, 0);
        long[] tells = {2, 13, 2, -9};
        int[] kinds = {1, 0, 1, 0};
        for (int i = 0; i < tells.length; i++) {
            due.is("note " + i, x.noted(i), tells[i]);
            due.is("kind of " + i, x.note(i, 1), kinds[i]);
            due.is("ticket of " + i, x.note(i, 0), t);
        }
        due.is("no more", x.count(6), tells.length);
        due.is("an act that fails is no failure", Ops.playSteps(x, Ops.AFTER, 1, 39), 1);
        due.is("but NULL is told", x.noted(4), -2);
        due.is("done", x.ticket(1, 0), Ops.DONE);
    }

    private static void notesOfTickets() {
        SeedExchange x = new SeedExchange();
        x.window(3);
        x.number(0, 2);
        Ops.steps(x, 1, Ops.PUT, 8, 0, Ops.AFTER, 1, 0, Ops.PUT, 4, 0, Ops.WRITE, 0, 0);
        Ops.steps(x, 2, Ops.PUT, 8, 0, Ops.AFTER, 0, 2, Ops.AFTER, 1, 0);
        Ops.steps(x, 3, Ops.AFTER, 0, 0, Ops.FAIL, 0, 0);
        submitAll(x, 3, 1, 2, 3, 2);
        x.run(100);
        int[] tickets = {1, 2, 2, 4, 4};
        int[] kinds = {1, 0, 1, 0, 1};
        long[] tells = {2, 10, 2, 10, 2};
        for (int i = 0; i < tickets.length; i++) {
            due.is("ticket of " + i, x.note(i, 0), tickets[i]);
            due.is("kind of " + i, x.note(i, 1), kinds[i]);
            due.is("note " + i, x.noted(i), tells[i]);
        }
        due.is("no more", x.note(tickets.length, 0), Ops.NONE);
    }

    private static void wakesThoseThatWait() {
        SeedExchange x = new SeedExchange();
        x.number(0, 0);
        x.number(1, 0);
        Ops.steps(x, 1, Ops.READ, 0, 0, Ops.WAIT, 0, 0);
        Ops.steps(x, 2, Ops.READ, 1, 0, Ops.WAIT, 0, 0);
        Ops.steps(x, 3, Ops.READ, 0, 0, Ops.FAIL, 0, 0);
        Ops.steps(x, 4, Ops.READ, 0, 0);
        Ops.steps(x, 5, Ops.WRITE, 0, 0);
        Ops.steps(x, 6, Ops.READ, 0, 0, Ops.WAIT, 0, 0);
        submitAll(x, 1, 2, 3, 4, 6);
        x.run(100);
        x.clash(6, 3);
        x.number(0, 0);
        x.run(100);
        statesAre("ahead of it", x, Ops.WAITING, Ops.WAITING, Ops.FAILED, Ops.DONE, Ops.GIVEN_UP);
        submitAll(x, 1, 5);
        x.run(2);
        statesAre("behind it", x, Ops.READY, Ops.WAITING, Ops.FAILED, Ops.DONE, Ops.GIVEN_UP, Ops.READY, Ops.DONE);
        int[] woken = {0, 5};
        for (int t : woken) {
            due.is("by the cell", x.woken(t, 0), 0);
            due.is("by the ticket", x.woken(t, 1), 6);
        }
        due.is("that of the other cell was not", x.woken(1, 0), Ops.NONE);
        due.is("nor that which failed", x.woken(2, 0), Ops.NONE);
        due.is("nor that which is done", x.woken(3, 0), Ops.NONE);
        due.is("that given up was woken ahead of that", x.woken(4, 1), Ops.NONE);
    }

    private static void readyInTheirPlace() {
        SeedExchange x = new SeedExchange();
        x.number(0, 0);
        Ops.steps(x, 1, Ops.READ, 0, 0, Ops.SKIP, 1, 0, Ops.SAY, 0, 0, Ops.SKIP, 1, 0, Ops.PUT, 0, 0, Ops.DO, 3, 0);
        Ops.steps(x, 3, Ops.READ, 0, 0, Ops.MORE, -1, 0, Ops.SKIP, 1, 0, Ops.WAIT, 0, 0);
        Ops.steps(x, 2, Ops.PUT, 1, 0, Ops.WRITE, 0, 0);
        submitAll(x, 4, 1, 2, 4, 1);
        x.run(3);
        due.is("woken", x.ticket(1, 0), Ops.READY);
        due.is("ready ones", x.count(1), 3);
        x.run(1);
        due.is("it is the next", x.ticket(1, 0), Ops.DONE);
        due.is("ahead of greater ones", x.ticket(3, 0), Ops.READY);
        x.run(100);
        int[] order = {0, 2, 1, 3, 4};
        for (int i = 0; i < order.length; i++) {
            due.is("order " + i, x.order(i), order[i]);
        }
    }

    private static void onAllCells() {
        SeedExchange x = new SeedExchange();
        x.number(39, -1);
        x.rule(0, 39, 0, 0);
        int t = Ops.playSteps(x, Ops.PUT, 5, 0, Ops.WRITE, 0, 0);
        due.is("a cell that it neither read nor wrote", x.ticket(t, 0), Ops.BROKEN);
        t = Ops.play(x, 1);
        due.is("one that writes none", x.ticket(t, 0), Ops.BROKEN);
        due.is("by it", x.ticket(t, 5), 0);
        x.empty(39);
        due.is("it holds again", x.ticket(Ops.play(x, 1), 0), Ops.DONE);
        x.rule(2, 7, 0, 30);
        for (int c = 10; c < 13; c++) {
            due.is("less than enough in " + (c - 10), x.ticket(Ops.play(x, 1), 0), Ops.BROKEN);
            x.lot(c, 7, c - 10, 10);
        }
        due.is("lots of several growers together", x.ticket(Ops.play(x, 1), 0), Ops.DONE);
    }
}
