/** The sentences on rounds, turns, effects and notes that name an edge, a test each (Terms 3). */
public final class EdgesOfRoundsTest {
    private static final long MIN = Long.MIN_VALUE, MAX = Long.MAX_VALUE;
    private static final Due due = new Due();

    public static void main(String[] args) {
        due.sentence("TICKETS 0, 1, .. (20 at most)", EdgesOfRoundsTest::twentyTickets);
        due.sentence("WINDOW (1 .. 4; 1 at first)", EdgesOfRoundsTest::windows);
        due.sentence("the least READY TICKETS, as many as WINDOW says (or as there are)", EdgesOfRoundsTest::asManyAsThereAre);
        due.sentence("each on the CELLS as they stand as the ROUND begins", EdgesOfRoundsTest::asTheRoundBegins);
        due.sentence("a READY TICKET that is not of the ROUND", EdgesOfRoundsTest::endsByOneNotOfTheRound);
        due.sentence("or had its TURN in it", EdgesOfRoundsTest::endsByOneThatHadItsTurn);
        due.sentence("has a lesser number", EdgesOfRoundsTest::aGreaterNumberEndsNothing);
        due.sentence("what those behind TRIED is forgotten; they stay READY", EdgesOfRoundsTest::forgotten);
        due.sentence("has another VERSION than at the TRY", EdgesOfRoundsTest::anotherVersion);
        due.sentence("For each CLASH of its TRADE it is TRIED once more (so)", EdgesOfRoundsTest::upToTwoClashes);
        due.sentence("with more than 2 CLASHES 2 times, and it is GIVEN UP", EdgesOfRoundsTest::moreThanTwoClashes);
        due.sentence("BROKEN (by the least one)", EdgesOfRoundsTest::leastRule);
        due.sentence("on the CELLS as they would stand", EdgesOfRoundsTest::asTheyWouldStand);
        due.sentence("A TICKET whose fifth TURN ends in WAITING is GIVEN UP.", EdgesOfRoundsTest::fifthTurn);
        due.sentence("hold what they were to (also the same)", EdgesOfRoundsTest::theSameWritten);
        due.sentence("each is a NOTE (40 are kept)", EdgesOfRoundsTest::fortyNotes);
        due.sentence("of kind 0: X + b, as longs that wrap", EdgesOfRoundsTest::notesThatWrap);
        due.sentence("X by the NUMBER of CELL b as it stands, cut toward 0", EdgesOfRoundsTest::notesThatDivide);
        due.sentence("it FAILED by NULL, CAST, ZERO, SUM: -1 less that (what stands stays)", EdgesOfRoundsTest::notesThatFail);
        due.sentence("READ (in the TRY by which they wait) one of the CELLS that were WRITTEN", EdgesOfRoundsTest::wokenByWhatItRead);
        due.sentence("WOKEN by the least such CELL and this TICKET", EdgesOfRoundsTest::wokenByTheLeast);
        due.sentence("A CELL that is told anew wakes likewise (by NONE).", EdgesOfRoundsTest::wokenByTelling);
        due.end();
    }

    private static void submitAll(SeedExchange x, int... trades) {
        for (int trade : trades) {
            x.submit(trade);
        }
    }

    private static void twentyTickets() {
        SeedExchange x = new SeedExchange();
        Ops.steps(x, 15, Ops.WRITE, 0, 0);
        for (int i = 0; i < 20; i++) {
            due.is("submit " + i, x.submit(15), i);
            due.is("count", x.count(0), i + 1);
        }
        due.is("the 21st", x.submit(15), Ops.FULL);
        due.is("BAD is ahead of FULL", x.submit(16), Ops.BAD);
        due.is("count", x.count(0), 20);
        due.is("ticket 20", x.ticket(20, 0), Ops.BAD);
        due.is("all are done", x.run(100), 20);
        due.is("all have taken effect", x.cell(0, 0), 20);
        due.is("the last of the order", x.order(19), 19);
        due.is("behind the last", x.order(20), Ops.NONE);
        due.is("done ones make no room", x.submit(15), Ops.FULL);
    }

    private static void windows() {
        SeedExchange x = new SeedExchange();
        int was = 1;
        for (int w = 1; w <= 4; w++) {
            due.is("window " + w, x.window(w), was);
            was = w;
        }
        int[] wrong = {0, 5, -1, Integer.MIN_VALUE, Integer.MAX_VALUE};
        for (int w : wrong) {
            due.is("window " + w, x.window(w), Ops.BAD);
        }
        due.is("it stays", x.window(1), 4);
        for (int w = 1; w <= 4; w++) {
            SeedExchange y = new SeedExchange();
            submitAll(y, 0, 0, 0, 0, 0, 0);
            due.is("1 at first", y.run(1), 1);
            y.window(w);
            due.is("turns of a round", y.run(1), w);
            due.is("rounds", y.count(4), 2);
        }
    }

    private static void asManyAsThereAre() {
        SeedExchange x = new SeedExchange();
        due.is("none", x.run(1), 0);
        due.is("no round", x.count(4), 0);
        x.window(4);
        submitAll(x, 0);
        due.is("one", x.run(1), 1);
        submitAll(x, 0, 0, 0);
        due.is("three", x.run(1), 3);
        submitAll(x, 0, 0, 0, 0, 0);
        due.is("four of five", x.run(1), 4);
        due.is("the greatest is ready yet", x.ticket(8, 0), Ops.READY);
        due.is("it was not tried", x.ticket(8, 6), 0);
        due.is("the least were tried", x.ticket(7, 6), 1);
    }

    private static void asTheRoundBegins() {
        SeedExchange x = new SeedExchange();
        x.window(2);
        x.number(0, 0);
        Ops.steps(x, 0, Ops.PUT, 1, 0, Ops.WRITE, 0, 0);
        Ops.steps(x, 1, Ops.READ, 0, 0, Ops.SAY, 0, 0);
        submitAll(x, 0, 1, 1);
        x.run(1);
        due.is("tried on what stood, and again", x.ticket(1, 6), 2);
        due.is("the latest counts", x.answer(1, 0), 1);
        x.run(1);
        due.is("of the next round", x.ticket(2, 6), 1);
        due.is("sees what stands now", x.answer(2, 0), 1);
    }

    /** Trade 1 waits while cell 0 holds 0; trade 2 makes that 1; trade 3 does nothing. */
    private static SeedExchange withOneThatWaits() {
        SeedExchange x = new SeedExchange();
        x.number(0, 0);
        Ops.steps(x, 1, Ops.READ, 0, 0, Ops.MORE, -1, 0, Ops.SKIP, 1, 0, Ops.WAIT, 0, 0);
        Ops.steps(x, 2, Ops.PUT, 1, 0, Ops.WRITE, 0, 0);
        return x;
    }

    private static void endsByOneNotOfTheRound() {
        SeedExchange x = withOneThatWaits();
        Ops.play(x, 1);
        x.window(4);
        submitAll(x, 3, 2, 3, 3);
        due.is("turns of 1 and 2", x.run(1), 2);
        due.is("0 is ready, and was not of it", x.ticket(0, 0), Ops.READY);
        due.is("3 had no turn", x.ticket(3, 2), 0);
        due.is("4 had no turn", x.ticket(4, 2), 0);
        due.is("the next round begins with 0", x.run(1), 3);
        due.is("order", x.order(2), 0);
        due.is("order", x.order(4), 4);
    }

    private static void endsByOneThatHadItsTurn() {
        SeedExchange x = withOneThatWaits();
        x.window(4);
        submitAll(x, 1, 2, 3, 3);
        due.is("turns of 0 and 1", x.run(1), 2);
        due.is("0 had its turn and is ready again", x.ticket(0, 0), Ops.READY);
        due.is("woken by 1", x.woken(0, 1), 1);
        due.is("2 stays ready", x.ticket(2, 0), Ops.READY);
        due.is("3 stays ready", x.ticket(3, 0), Ops.READY);
        due.is("the rest in one round", x.run(1), 3);
        due.is("order", x.order(1), 0);
    }

    private static void aGreaterNumberEndsNothing() {
        SeedExchange x = withOneThatWaits();
        x.number(5, 0);
        Ops.steps(x, 4, Ops.READ, 5, 0, Ops.WAIT, 0, 0);
        submitAll(x, 4, 4, 1);
        x.run(3);
        due.is("all wait", x.count(2), 3);
        x.number(5, 0);
        Ops.retell(x, 4, Ops.PUT, 1, 0, Ops.WRITE, 0, 0);
        x.window(2);
        due.is("2 is woken by 0, and is greater than 1", x.run(1), 2);
        due.is("2 is ready", x.ticket(2, 0), Ops.READY);
        due.is("both are done", x.count(3), 2);
    }

    private static void forgotten() {
        SeedExchange x = withOneThatWaits();
        Ops.play(x, 1);
        x.window(4);
        submitAll(x, 2, 4, 2, 3);
        Ops.steps(x, 4, Ops.FAIL, 1, 0);
        Ops.steps(x, 3, Ops.SAY, 0, 0, Ops.AFTER, 0, 0);
        due.is("turns", x.run(1), 1);
        for (int t = 2; t <= 4; t++) {
            due.is("state", x.ticket(t, 0), Ops.READY);
            due.is("turns", x.ticket(t, 2), 0);
            due.is("no failure", x.ticket(t, 3), 0);
            due.is("none that counted", x.tried(t, 0), Ops.NONE);
            due.is("no way", x.way(t, 0, 0), Ops.NONE);
            due.is("tries in all", x.ticket(t, 6), 1);
        }
        due.is("no note", x.count(6), 0);
        due.is("all tries", x.count(5), 5);
        due.is("ready ones", x.count(1), 4);
        due.is("one effect", x.count(3), 1);
    }

    private static void anotherVersion() {
        SeedExchange x = new SeedExchange();
        x.window(4);
        x.number(0, 1);
        x.number(1, 1);
        Ops.steps(x, 0, Ops.PUT, 1, 0, Ops.WRITE, 0, 0);
        Ops.steps(x, 1, Ops.READ, 0, 0);
        Ops.steps(x, 2, Ops.READ, 1, 0);
        Ops.steps(x, 3, Ops.PUT, 2, 0, Ops.WRITE, 0, 0, Ops.READ, 0, 0);
        submitAll(x, 0, 1, 2, 3);
        due.is("turns", x.run(1), 4);
        due.is("what it read was written, though the same", x.ticket(1, 6), 2);
        due.is("what it read was not written", x.ticket(2, 6), 1);
        due.is("what it wrote itself was written", x.ticket(3, 6), 1);
        submitAll(x, 2, 1, 1, 1);
        due.is("turns", x.run(1), 4);
        due.is("only readers, tried once", x.count(5), 5 + 4);
        Ops.steps(x, 4, Ops.PUT, 7, 0, Ops.WRITE, 0, 0, Ops.FAIL, 0, 0);
        submitAll(x, 4, 1);
        x.run(1);
        due.is("one that failed changes no version", x.ticket(9, 6), 1);
        Ops.steps(x, 5, Ops.WRITE, 2, 0);
        submitAll(x, 0, 5, 1);
        x.run(1);
        due.is("not only by the effect just ahead of it", x.ticket(12, 6), 2);
    }

    private static void upToTwoClashes() {
        for (int many = 0; many <= 2; many++) {
            SeedExchange x = new SeedExchange();
            x.window(2);
            x.number(0, 0);
            Ops.steps(x, 1, Ops.READ, 0, 0, Ops.MORE, 1, 0, Ops.WRITE, 0, 0, Ops.SAY, 0, 0);
            Ops.steps(x, 2, Ops.DO, 1, 0);
            x.clash(1, many);
            submitAll(x, 1, 1, 2);
            due.is("turns", x.run(2), 3);
            due.is("tries", x.ticket(0, 6), 1 + many);
            due.is("tries with another version", x.ticket(1, 6), 2 + many);
            due.is("clashes of a part do not count", x.ticket(2, 6), 1);
            due.is("done", x.count(3), 3);
            due.is("each once", x.value(0), 3);
            due.is("answers of the latest try alone", x.answer(1, 1), 0);
            due.is("all tries", x.count(5), 4 + 2 * many);
            due.is("clashes stay", x.clash(1, 0), many);
        }
    }

    private static void moreThanTwoClashes() {
        for (int many = 3; many <= 10; many++) {
            SeedExchange x = new SeedExchange();
            x.window(2);
            x.number(0, 0);
            Ops.steps(x, 1, Ops.READ, 0, 0, Ops.WRITE, 0, 0, Ops.AFTER, 0, 0);
            Ops.steps(x, 2, Ops.WRITE, 0, 0);
            Ops.steps(x, 3, Ops.FAIL, 4, 0);
            x.clash(1, many);
            x.clash(3, many);
            submitAll(x, 2, 1, 1, 3);
            due.is("turns", x.run(2), 4);
            due.is("state", x.ticket(1, 0), Ops.GIVEN_UP);
            due.is("tries with another version", x.ticket(1, 6), 4);
            due.is("tries", x.ticket(2, 6), 3);
            due.is("one that fails is given up", x.ticket(3, 0), Ops.GIVEN_UP);
            due.is("without a failure", x.ticket(3, 3) + x.ticket(3, 4), 0);
            due.is("no effect", x.cell(0, 0), 2);
            due.is("no note", x.count(6), 0);
            due.is("none that counted", x.tried(1, 0), Ops.NONE);
            x.clash(1, 0);
            due.is("it is not ready again", x.run(1), 0);
        }
    }

    private static void leastRule() {
        SeedExchange x = new SeedExchange();
        x.number(0, 0);
        x.rule(0, 0, 0, 0);
        x.rule(0, 0, 0, 7);
        x.rule(0, 0, 0, 6);
        int t = Ops.play(x, 0);
        due.is("the least that does not hold", x.ticket(t, 5), 1);
        x.number(0, 6);
        due.is("the only one", x.ticket(Ops.play(x, 0), 5), 1);
        x.number(0, -1);
        due.is("all", x.ticket(Ops.play(x, 0), 5), 0);
        x.number(0, 7);
        t = Ops.play(x, 0);
        due.is("none", x.ticket(t, 5), Ops.NONE);
        due.is("done", x.ticket(t, 0), Ops.DONE);
    }

    private static void asTheyWouldStand() {
        SeedExchange x = new SeedExchange();
        x.number(0, 5);
        x.number(1, 5);
        x.rule(1, 0, 1, 0);
        int t = Ops.playSteps(x, Ops.PUT, 6, 0, Ops.WRITE, 0, 0, Ops.WRITE, 1, 0);
        due.is("both at once", x.ticket(t, 0), Ops.DONE);
        t = Ops.playSteps(x, Ops.PUT, 7, 0, Ops.WRITE, 0, 0, Ops.SAY, 0, 0, Ops.AFTER, 0, 0);
        due.is("one alone", x.ticket(t, 0), Ops.BROKEN);
        due.is("nothing stands", x.value(0), 6);
        due.is("no version", x.cell(0, 0), 2);
        due.is("no note", x.count(6), 0);
        due.is("no answer", x.answer(t, 0), 0);
        due.is("no effect", x.count(3), 1);
        t = Ops.playSteps(x, Ops.PUT, 7, 0, Ops.WRITE, 0, 0, Ops.PUT, 6, 0, Ops.WRITE, 0, 0);
        due.is("not on what stood within the try", x.ticket(t, 0), Ops.DONE);
        x.number(0, 9);
        t = Ops.playSteps(x, Ops.READ, 0, 0, Ops.FAIL, 0, 0);
        due.is("one that fails is not broken", x.ticket(t, 0), Ops.FAILED);
        t = Ops.playSteps(x, Ops.PUT, 9, 0, Ops.WRITE, 1, 0);
        due.is("one that mends it", x.ticket(t, 0), Ops.DONE);
        SeedExchange y = new SeedExchange();
        y.window(2);
        y.rule(1, 0, 1, 0);
        Ops.steps(y, 0, Ops.PUT, 5, 0, Ops.WRITE, 0, 0);
        Ops.steps(y, 1, Ops.PUT, 4, 0, Ops.WRITE, 1, 0);
        submitAll(y, 0, 1);
        y.run(1);
        due.is("the first of the round", y.ticket(0, 0), Ops.DONE);
        due.is("the other, with what the first has written", y.ticket(1, 0), Ops.BROKEN);
    }

    /** A ticket of trade 1, which waits on cell 0, that had its fourth turn and is ready again. */
    private static SeedExchange aheadOfTheFifth() {
        SeedExchange x = new SeedExchange();
        x.number(0, 0);
        Ops.steps(x, 1, Ops.READ, 0, 0, Ops.WAIT, 0, 0);
        Ops.play(x, 1);
        for (int turn = 1; turn <= 4; turn++) {
            due.is("waits behind turn " + turn, x.ticket(0, 0), Ops.WAITING);
            due.is("turns", x.ticket(0, 2), turn);
            x.number(0, 0);
            due.is("woken", x.ticket(0, 0), Ops.READY);
            x.run(turn < 4 ? 1 : 0);
        }
        return x;
    }

    private static void fifthTurn() {
        SeedExchange x = aheadOfTheFifth();
        due.is("the fifth", x.run(1), 1);
        due.is("given up", x.ticket(0, 0), Ops.GIVEN_UP);
        due.is("turns", x.ticket(0, 2), 5);
        due.is("tries", x.ticket(0, 6), 5);
        due.is("none waits", x.count(2), 0);
        x.number(0, 0);
        due.is("not woken again", x.ticket(0, 0), Ops.GIVEN_UP);
        x = aheadOfTheFifth();
        Ops.retell(x, 1, Ops.PUT, 3, 0, Ops.SAY, 0, 0);
        x.run(1);
        due.is("done in the fifth", x.ticket(0, 0), Ops.DONE);
        due.is("its answer", x.answer(0, 0), 3);
        x = aheadOfTheFifth();
        Ops.retell(x, 1, Ops.FAIL, 3, 0);
        x.run(1);
        due.is("failed in the fifth", x.ticket(0, 0), Ops.FAILED);
        x = aheadOfTheFifth();
        Ops.retell(x, 1, Ops.PUT, 3, 0);
        x.rule(2, 0, 0, 1);
        x.run(1);
        due.is("broken in the fifth", x.ticket(0, 0), Ops.BROKEN);
        due.is("turns", x.ticket(0, 2), 5);
    }

    private static void theSameWritten() {
        SeedExchange x = new SeedExchange();
        x.number(0, 4);
        x.number(1, 0);
        Ops.steps(x, 1, Ops.READ, 0, 0, Ops.WAIT, 0, 0);
        Ops.play(x, 1);
        int t = Ops.playSteps(x, Ops.READ, 0, 0, Ops.WRITE, 0, 0);
        due.is("value", x.value(0), 4);
        due.is("version", x.cell(0, 0), 2);
        due.is("writer", x.cell(0, 1), t);
        due.is("history", x.history(0, 0), t);
        due.is("it wakes", x.ticket(0, 0), Ops.READY);
        due.is("not written", x.cell(1, 0), 1);
        SeedExchange y = new SeedExchange();
        y.window(2);
        Ops.steps(y, 0, Ops.PUT, 5, 0, Ops.WRITE, 0, 0);
        Ops.steps(y, 1, Ops.PUT, 6, 0, Ops.WRITE, 1, 0);
        submitAll(y, 0, 1);
        due.is("both of one round", y.run(1), 2);
        due.is("what the later one has not written stays", y.value(0), 5);
        due.is("what it has written", y.value(1), 6);
    }

    private static void fortyNotes() {
        SeedExchange x = new SeedExchange();
        Ops.steps(x, 1, Ops.AFTER, 0, 7);
        for (int i = 0; i < 13; i++) {
            Ops.steps(x, 0, Ops.AFTER, 0, i);
        }
        for (int i = 0; i < 3; i++) {
            Ops.play(x, 0);
        }
        due.is("39 came", x.count(6), 39);
        due.is("no 40th yet", x.note(39, 0), Ops.NONE);
        Ops.play(x, 1);
        due.is("the 40th is kept", x.noted(39), 7);
        due.is("its ticket", x.note(39, 0), 3);
        Ops.play(x, 1);
        Ops.play(x, 0);
        due.is("54 came", x.count(6), 54);
        due.is("the 41st is not kept", x.note(40, 0), Ops.NONE);
        due.is("the 41st is not kept", x.note(40, 1), Ops.NONE);
        due.is("the 41st is not kept", x.noted(40), 0);
        due.is("the 54th is not kept", x.noted(53), 0);
        for (int i = 0; i < 39; i++) {
            due.is("note " + i, x.noted(i), i % 13);
            due.is("ticket " + i, x.note(i, 0), i / 13);
        }
        due.is("before the first", x.note(-1, 0), Ops.NONE);
        due.is("before the first", x.noted(-1), 0);
    }

    /** What the note of an act tells: X, and b (kind 0) or the number of cell 0 (kind 1). */
    private static void tells(int kind, long x, long b, long want) {
        SeedExchange e = new SeedExchange();
        e.number(0, b);
        e.number(1, x);
        int t = Ops.playSteps(e, Ops.READ, 1, 0, Ops.AFTER, kind, kind == 0 ? (int) b : 0, Ops.PUT, 1, 0);
        due.is("notes", e.count(6), 1);
        due.is("kind " + kind + " of " + x + ", " + b, e.noted(0), want);
        due.is("its kind", e.note(0, 1), kind);
        due.is("its ticket", e.note(0, 0), t);
        due.is("done", e.ticket(t, 0), Ops.DONE);
    }

    private static void notesThatWrap() {
        tells(0, MAX, 1, MIN);
        tells(0, MAX, 0, MAX);
        tells(0, MAX - 1, 1, MAX);
        tells(0, MIN, -1, MAX);
        tells(0, MIN + 1, -1, MIN);
        tells(0, MAX, Integer.MAX_VALUE, MIN + Integer.MAX_VALUE - 1);
        tells(0, MIN, Integer.MIN_VALUE, MAX + Integer.MIN_VALUE + 1);
        tells(0, Integer.MAX_VALUE, Integer.MAX_VALUE, 2L * Integer.MAX_VALUE);
        tells(0, 0, 0, 0);
    }

    private static void notesThatDivide() {
        tells(1, 7, 2, 3);
        tells(1, -7, 2, -3);
        tells(1, 7, -2, -3);
        tells(1, -7, -2, 3);
        tells(1, MIN, 1, MIN);
        tells(1, MIN + 1, -1, MAX);
        tells(1, MIN, MIN, 1);
        SeedExchange x = new SeedExchange();
        x.number(0, 2);
        Ops.playSteps(x, Ops.PUT, 12, 0, Ops.AFTER, 1, 0, Ops.PUT, 4, 0, Ops.WRITE, 0, 0);
        due.is("as it stands behind the effect", x.noted(0), 3);
        x.number(39, 5);
        Ops.playSteps(x, Ops.PUT, 15, 0, Ops.AFTER, 1, 39);
        due.is("of the last cell", x.noted(1), 3);
        x.number(39, 1);
        due.is("what was noted stays", x.noted(1), 3);
    }

    private static void notesThatFail() {
        tells(1, 7, 0, -1 - Ops.ZERO);
        tells(1, 0, 0, -1 - Ops.ZERO);
        tells(1, MIN, 0, -1 - Ops.ZERO);
        tells(1, MIN, -1, -1 - Ops.SUM);
        SeedExchange x = new SeedExchange();
        x.lot(1, 0, 0, 5);
        x.number(2, 3);
        Ops.steps(x, 0, Ops.PUT, 6, 0, Ops.WRITE, 3, 0, Ops.AFTER, 1, 0, Ops.AFTER, 1, 1, Ops.AFTER, 1, 2, Ops.SWAP, 2, 4);
        int t = Ops.play(x, 0);
        due.is("NULL", x.noted(0), -1 - Ops.NULL);
        due.is("CAST", x.noted(1), -1 - Ops.CAST);
        due.is("swapped away by the effect: NULL", x.noted(2), -1 - Ops.NULL);
        due.is("all came", x.count(6), 3);
        due.is("done all the same", x.ticket(t, 0), Ops.DONE);
        due.is("without a failure", x.ticket(t, 3), 0);
        due.is("what stands stays", x.value(3), 6);
        due.is("what stands stays", x.value(4), 3);
    }

    private static void wokenByWhatItRead() {
        SeedExchange x = new SeedExchange();
        for (int c = 0; c < 4; c++) {
            x.number(c, 0);
        }
        x.number(4, 1);
        // It reads cell 2 only while cell 1 is below cell 4.
        Ops.steps(x, 1, Ops.WRITE, 3, 0, Ops.READ, 1, 0, Ops.BELOW, 4, 0, Ops.SKIP, 1, 0, Ops.READ, 2, 0, Ops.WAIT, 0, 0);
        Ops.steps(x, 2, Ops.PUT, 1, 0, Ops.WRITE, 0, 0, Ops.WRITE, 3, 0);
        Ops.steps(x, 3, Ops.PUT, 1, 0, Ops.WRITE, 2, 0, Ops.FAIL, 0, 0);
        Ops.steps(x, 4, Ops.WAIT, 0, 0);
        int blind = Ops.play(x, 4);
        int t = Ops.play(x, 1);
        due.is("how many it read", x.tried(t, 1), 3);
        Ops.play(x, 2);
        due.is("not by what it wrote, nor by others", x.ticket(t, 0), Ops.WAITING);
        Ops.play(x, 3);
        due.is("not by one that failed", x.ticket(t, 0), Ops.WAITING);
        Ops.playSteps(x, Ops.PUT, 1, 0, Ops.WRITE, 1, 0);
        due.is("by what it read", x.ticket(t, 0), Ops.READY);
        x.run(1);
        due.is("it waits again", x.ticket(t, 0), Ops.WAITING);
        Ops.playSteps(x, Ops.WRITE, 2, 0);
        due.is("not by what an earlier try read", x.ticket(t, 0), Ops.WAITING);
        x.number(2, 2);
        due.is("not by what an earlier try read", x.ticket(t, 0), Ops.WAITING);
        for (int c = 0; c < 40; c++) {
            x.number(c, 5);
        }
        due.is("one that read nothing is never woken", x.ticket(blind, 0), Ops.WAITING);
        due.is("nor has it been", x.woken(blind, 0), Ops.NONE);
    }

    private static void wokenByTheLeast() {
        SeedExchange x = new SeedExchange();
        int[] cells = {39, 0, 20};
        for (int c : cells) {
            x.number(c, 0);
        }
        Ops.steps(x, 1, Ops.READ, 39, 0, Ops.READ, 0, 0, Ops.READ, 20, 0, Ops.WAIT, 0, 0);
        Ops.steps(x, 2, Ops.READ, 39, 0, Ops.WAIT, 0, 0);
        Ops.steps(x, 3, Ops.WRITE, 39, 0, Ops.WRITE, 20, 0, Ops.WRITE, 1, 0);
        Ops.play(x, 1);
        Ops.play(x, 2);
        due.is("not yet", x.woken(0, 0), Ops.NONE);
        due.is("not yet", x.woken(0, 1), Ops.NONE);
        int t = Ops.play(x, 3);
        due.is("the least of both", x.woken(0, 0), 20);
        due.is("the only one", x.woken(1, 0), 39);
        due.is("this ticket", x.woken(0, 1), t);
        due.is("this ticket", x.woken(1, 1), t);
        x.run(2);
        t = Ops.playSteps(x, Ops.SWAP, 39, 0);
        due.is("cell 0", x.woken(0, 0), 0);
        due.is("the latest ticket", x.woken(0, 1), t);
        x.number(20, 0);
        due.is("one that is ready is not woken", x.woken(0, 0), 0);
    }

    private static void wokenByTelling() {
        for (int how = 0; how < 3; how++) {
            SeedExchange x = new SeedExchange();
            x.number(39, 0);
            Ops.steps(x, 1, Ops.READ, 39, 0, Ops.WAIT, 0, 0);
            Ops.play(x, 1);
            Ops.playSteps(x, Ops.WRITE, 39, 0);
            x.run(1);
            due.is("by a ticket", x.woken(0, 1), 1);
            x.number(38, 0);
            due.is("not by another cell", x.ticket(0, 0), Ops.WAITING);
            if (how == 0) {
                x.number(39, 0);
            } else if (how == 1) {
                x.lot(39, 0, 0, 0);
            } else {
                x.empty(39);
            }
            due.is("ready", x.ticket(0, 0), Ops.READY);
            due.is("by the cell", x.woken(0, 0), 39);
            due.is("by none", x.woken(0, 1), Ops.NONE);
        }
        SeedExchange x = new SeedExchange();
        x.number(0, 0);
        Ops.steps(x, 1, Ops.READ, 0, 0, Ops.WAIT, 0, 0);
        Ops.play(x, 1);
        x.number(40, 0);
        x.lot(0, 8, 0, 0);
        due.is("a refused call wakes none", x.ticket(0, 0), Ops.WAITING);
    }
}
