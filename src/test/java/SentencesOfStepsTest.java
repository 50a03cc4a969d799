/** The sentences on cells, trades, steps and tries that name no edge, a test each (Terms 1 and 2). */
public final class SentencesOfStepsTest {
    private static final long MIN = Long.MIN_VALUE, MAX = Long.MAX_VALUE;
    private static final Due due = new Due();

    public static void main(String[] args) {
        due.sentence("Each has a VERSION (0;", SentencesOfStepsTest::versionsOfTheirOwn);
        due.sentence("and a WRITER (the TICKET of the latest such EFFECT;", SentencesOfStepsTest::latestWriter);
        due.sentence("an OP, a, b", SentencesOfStepsTest::stepsHaveTheirOwn);
        due.sentence("A TRY does one, from STEP 0 on", SentencesOfStepsTest::fromStepZeroOn);
        due.sentence("1 READ: X is the NUMBER of CELL a.", SentencesOfStepsTest::reading);
        due.sentence("7 AT: X is the NUMBER of CELL X.", SentencesOfStepsTest::readingAtX);
        due.sentence("10 GIVE: X GRAMS go from the LOT in CELL a to that in CELL b", SentencesOfStepsTest::giving);
        due.sentence("11 SWAP: CELLS a and b", SentencesOfStepsTest::swapping);
        due.sentence("12 SAY: X is an ANSWER", SentencesOfStepsTest::saying);
        due.sentence("14 FAIL.", SentencesOfStepsTest::failing);
        due.sentence("15 WAIT: the TRY WAITS.", SentencesOfStepsTest::waiting);
        due.sentence("16 DO: TRADE a, as a PART.", SentencesOfStepsTest::doing);
        due.sentence("17 CATCH: TRADE a as a PART;", SentencesOfStepsTest::catchingWhatIsFine);
        due.sentence("the PART is undone, X is -1 less the FAILURE, and it goes on", SentencesOfStepsTest::catchingEach);
        due.sentence("18 OR: TRADE a as a PART;", SentencesOfStepsTest::firstOfTwo);
        due.sentence(", the PART is undone,", SentencesOfStepsTest::partsWithinParts);
        due.sentence("19 AFTER: an act for behind the EFFECT: it has the kind a (0, 1), b, X.", SentencesOfStepsTest::acting);
        due.sentence("5 SUM: (3 to 6) beyond a long.", SentencesOfStepsTest::sums);
        due.sentence("8 TOLD: (FAIL).", SentencesOfStepsTest::told);
        due.sentence("(the TICKET's the first): it FAILS so,", SentencesOfStepsTest::deepFails);
        due.sentence("A FAILURE that is not caught ends the TRY by it, WAIT likewise;", SentencesOfStepsTest::endsTheTry);
        due.sentence("its WAY is the TRADES and STEPS at which it stood,", SentencesOfStepsTest::ways);
        due.end();
    }

    private static void versionsOfTheirOwn() {
        SeedExchange x = new SeedExchange();
        for (int c = 0; c < 40; c++) {
            due.is("at first, cell " + c, x.cell(c, 0), 0);
        }
        x.number(7, 1);
        x.number(7, 1);
        x.empty(9);
        Ops.playSteps(x, Ops.WRITE, 8, 0, Ops.WRITE, 7, 0);
        for (int c = 0; c < 40; c++) {
            due.is("cell " + c, x.cell(c, 0), c == 7 ? 3 : c == 8 || c == 9 ? 1 : 0);
        }
    }

    private static void latestWriter() {
        SeedExchange x = new SeedExchange();
        Ops.playSteps(x, Ops.WRITE, 1, 0, Ops.WRITE, 2, 0);
        Ops.playSteps(x, Ops.WRITE, 2, 0, Ops.WRITE, 3, 0);
        Ops.playSteps(x, Ops.WRITE, 1, 0, Ops.FAIL, 0, 0);
        Ops.playSteps(x, Ops.WRITE, 1, 0, Ops.WAIT, 0, 0);
        Ops.playSteps(x, Ops.READ, 1, 0);
        due.is("no write", x.cell(0, 1), Ops.NONE);
        due.is("once; later ones took no effect, or only read", x.cell(1, 1), 0);
        due.is("the latest", x.cell(2, 1), 1);
        due.is("the other's alone", x.cell(3, 1), 1);
    }

    private static void stepsHaveTheirOwn() {
        SeedExchange x = new SeedExchange();
        Ops.steps(x, 3, Ops.PUT, 10, 99, Ops.AFTER, 0, 1);
        Ops.steps(x, 4, Ops.PUT, 20, 98, Ops.AFTER, 0, 2);
        Ops.steps(x, 3, Ops.MORE, 5, 97, Ops.AFTER, 0, 3);
        Ops.play(x, 3);
        Ops.play(x, 4);
        due.is("trade 3, the first act", x.noted(0), 11);
        due.is("trade 3, the other act", x.noted(1), 18);
        due.is("trade 4", x.noted(2), 22);
        due.is("no more", x.count(6), 3);
    }

    private static void fromStepZeroOn() {
        SeedExchange x = new SeedExchange();
        x.number(0, 5);
        Ops.steps(x, 1, Ops.SAY, 0, 0, Ops.ADD, 0, 0, Ops.SAY, 0, 0, Ops.ADD, 0, 0, Ops.SAY, 0, 0);
        x.clash(1, 2);
        int t = Ops.play(x, 1);
        due.is("three tries", x.ticket(t, 6), 3);
        for (int i = 0; i < 8; i++) {
            due.is("answer " + i + " of the latest", x.answer(t, i), i < 3 ? 5 * i : 0);
        }
        due.is("steps of the latest", x.tried(t, 0), 5);
        Ops.steps(x, 2, Ops.MORE, 1, 0, Ops.SAY, 0, 0, Ops.READ, 0, 0, Ops.SKIP, 1, 0, Ops.WAIT, 0, 0);
        t = Ops.play(x, 2);
        due.is("waits", x.ticket(t, 0), Ops.WAITING);
        x.number(0, 0);
        x.run(1);
        due.is("done", x.ticket(t, 0), Ops.DONE);
        due.is("X was 0 again", x.answer(t, 0), 1);
        due.is("one answer", x.answer(t, 1), 0);
    }

    private static void reading() {
        SeedExchange x = new SeedExchange();
        long[] told = {0, -1, 1, MIN, MAX};
        for (int c = 0; c < told.length; c++) {
            x.number(c, told[c]);
        }
        int t = Ops.playSteps(x, Ops.READ, 4, 0, Ops.SAY, 0, 0, Ops.READ, 3, 1, Ops.SAY, 0, 0, Ops.READ, 1, 4, Ops.SAY, 0, 0);
        due.is("the greatest", x.answer(t, 0), MAX);
        due.is("the least", x.answer(t, 1), MIN);
        due.is("-1", x.answer(t, 2), -1);
        due.is("what stands is as it was", x.cell(4, 0), 1);
        due.is("none written", x.tried(t, 2), 0);
        due.is("three read", x.tried(t, 1), 3);
    }

    private static void readingAtX() {
        SeedExchange x = new SeedExchange();
        x.number(0, 39);
        x.number(39, 17);
        x.number(17, -1);
        int t = Ops.playSteps(x, Ops.AT, 5, 5, Ops.SAY, 0, 0, Ops.AT, 40, -1, Ops.SAY, 0, 0, Ops.AT, 0, 0, Ops.SAY, 0, 0);
        due.is("cell 0", x.answer(t, 0), 39);
        due.is("cell 39", x.answer(t, 1), 17);
        due.is("cell 17", x.answer(t, 2), -1);
        due.is("all three are read", x.tried(t, 1), 3);
        due.is("not cell a", x.read(t, 5), 0);
        x.lot(17, 0, 0, 3);
        t = Ops.playSteps(x, Ops.PUT, 17, 0, Ops.AT, 0, 0);
        due.is("a lot", x.ticket(t, 3), Ops.CAST);
        due.is("was looked at", x.read(t, 17), 1);
        t = Ops.playSteps(x, Ops.PUT, 8, 0, Ops.WRITE, 8, 0, Ops.AT, 0, 0, Ops.SAY, 0, 0);
        due.is("its own writing", x.answer(t, 0), 8);
        due.is("is not read", x.tried(t, 1), 0);
    }

    private static void giving() {
        SeedExchange x = new SeedExchange();
        x.lot(0, 2, 3, 100);
        x.lot(1, 2, 4, 10);
        x.lot(2, 2, 5, 0);
        int t = Ops.playSteps(x, Ops.PUT, 60, 0, Ops.GIVE, 0, 1, Ops.PUT, 70, 0, Ops.GIVE, 1, 2, Ops.SAY, 0, 0);
        due.is("done", x.ticket(t, 0), Ops.DONE);
        due.is("X stays", x.answer(t, 0), 70);
        int[] left = {40, 0, 70};
        for (int c = 0; c < 3; c++) {
            due.is("grams of " + c, x.value(c), left[c]);
            due.is("a lot yet", x.holds(c), 2);
            due.is("kind of " + c, x.cell(c, 2), 2);
            due.is("grower of " + c, x.cell(c, 3), 3 + c);
            due.is("written once", x.cell(c, 0), 2);
        }
        due.is("all of the kind", x.stock(0, 2), 110);
        due.is("of the one grower", x.stock(1, 3), 40);
        due.is("of the other", x.stock(1, 5), 70);
    }

    private static void swapping() {
        SeedExchange x = new SeedExchange();
        x.number(0, 9);
        x.lot(1, 6, 5, 4);
        int t = Ops.playSteps(x, Ops.PUT, 3, 0, Ops.SWAP, 0, 1, Ops.GRAMS, 0, 0, Ops.SAY, 0, 0, Ops.READ, 1, 0, Ops.SAY, 0, 0);
        due.is("the lot came", x.answer(t, 0), 4);
        due.is("the number came", x.answer(t, 1), 9);
        due.is("its kind", x.cell(0, 2), 6);
        due.is("its grower", x.cell(0, 3), 5);
        due.is("a number has none", x.cell(1, 2), Ops.NONE);
        due.is("both are read", x.read(t, 0) + x.read(t, 1), 2);
        t = Ops.playSteps(x, Ops.SWAP, 0, 1, Ops.SWAP, 1, 0);
        due.is("there and back", x.holds(0), 2);
        due.is("is written all the same", x.cell(0, 0), 3);
        due.is("two cells", x.tried(t, 2), 2);
        t = Ops.playSteps(x, Ops.WRITE, 2, 0, Ops.WRITE, 3, 0, Ops.SWAP, 2, 3, Ops.SWAP, 3, 4);
        due.is("what it had written it does not read", x.read(t, 2) + x.read(t, 3), 0);
        due.is("what it had not it reads", x.read(t, 4), 1);
    }

    private static void saying() {
        SeedExchange x = new SeedExchange();
        int t = Ops.playSteps(x, Ops.SAY, 5, 6, Ops.PUT, -3, 0, Ops.SAY, 0, 0, Ops.SAY, 0, 0, Ops.MORE, 4, 0);
        due.is("X at first, not a", x.answer(t, 0), 0);
        due.is("X then", x.answer(t, 1), -3);
        due.is("X stays", x.answer(t, 2), -3);
        due.is("not what came later", x.answer(t, 3), 0);
    }

    private static void failing() {
        SeedExchange x = new SeedExchange();
        int t = Ops.playSteps(x, Ops.WRITE, 0, 0, Ops.SAY, 0, 0, Ops.AFTER, 0, 0, Ops.FAIL, 4, 5, Ops.WRITE, 1, 0);
        due.is("failed", x.ticket(t, 0), Ops.FAILED);
        due.is("steps, with its own", x.tried(t, 0), 4);
        due.is("no effect", x.holds(0), 0);
        due.is("no version", x.cell(0, 0), 0);
        due.is("no act", x.count(6), 0);
        due.is("not in the order", x.order(0), Ops.NONE);
        x.number(0, 1);
        due.is("it stays failed", x.run(1), 0);
    }

    private static void waiting() {
        SeedExchange x = new SeedExchange();
        x.number(0, 1);
        int t = Ops.playSteps(x, Ops.READ, 0, 0, Ops.WRITE, 1, 0, Ops.AFTER, 0, 0, Ops.WAIT, 7, 7, Ops.FAIL, 1, 1);
        due.is("waits", x.ticket(t, 0), Ops.WAITING);
        due.is("steps, with its own", x.tried(t, 0), 4);
        due.is("no effect", x.holds(1), 0);
        due.is("no act", x.count(6), 0);
        due.is("no failure", x.ticket(t, 3), 0);
        due.is("no turn till it is woken", x.run(100), 0);
        t = Ops.playSteps(x, Ops.WAIT, 0, 0);
        for (int c = 0; c < 40; c++) {
            x.number(c, 0);
        }
        due.is("one that read nothing is never woken", x.ticket(t, 0), Ops.WAITING);
    }

    private static void doing() {
        SeedExchange x = new SeedExchange();
        Ops.steps(x, 1, Ops.MORE, 2, 0, Ops.WRITE, 1, 0, Ops.SAY, 0, 0, Ops.AFTER, 0, 0);
        int t = Ops.playSteps(x, Ops.PUT, 5, 0, Ops.DO, 1, 9, Ops.SAY, 0, 0, Ops.DO, 1, 0, Ops.DO, 2, 0, Ops.SAY, 0, 0);
        long[] answers = {7, 7, 9, 9};
        for (int i = 0; i < answers.length; i++) {
            due.is("X goes in and out, " + i, x.answer(t, i), answers[i]);
        }
        due.is("what it wrote stays", x.value(1), 9);
        due.is("its acts stay", x.count(6), 2);
        due.is("steps of all", x.tried(t, 0), 6 + 8);
        due.is("done", x.ticket(t, 0), Ops.DONE);
        due.is("clashes and tickets of it: none", x.count(0), 1);
    }

    private static void catchingWhatIsFine() {
        SeedExchange x = new SeedExchange();
        Ops.steps(x, 1, Ops.MORE, 2, 0, Ops.WRITE, 1, 0, Ops.SAY, 0, 0, Ops.AFTER, 0, 0);
        int t = Ops.playSteps(x, Ops.PUT, 5, 0, Ops.CATCH, 1, 0, Ops.SAY, 0, 0);
        due.is("its answer stays", x.answer(t, 0), 7);
        due.is("X goes out", x.answer(t, 1), 7);
        due.is("what it wrote stays", x.value(1), 7);
        due.is("its act stays", x.noted(0), 7);
        t = Ops.playSteps(x, Ops.PUT, 5, 0, Ops.CATCH, 2, 0, Ops.SAY, 0, 0);
        due.is("a trade without steps", x.answer(t, 0), 5);
    }

    /** Trade 1 fails by what is asked for; cells: 0 is 0, 1 is MIN, 2 and 3 are lots of unlike kinds. */
    private static SeedExchange thatFailsBy(int failure) {
        SeedExchange x = new SeedExchange();
        x.number(0, 0);
        x.number(1, MIN);
        x.lot(2, 0, 0, 1);
        x.lot(3, 1, 0, 1);
        Ops.steps(x, 1, Ops.PUT, 99, 0, Ops.WRITE, 9, 0, Ops.SAY, 0, 0, Ops.AFTER, 0, 0);
        switch (failure) {
            case Ops.NULL -> Ops.steps(x, 1, Ops.READ, 39, 0);
            case Ops.INDEX -> Ops.steps(x, 1, Ops.AT, 0, 0);
            case Ops.CAST -> Ops.steps(x, 1, Ops.GRAMS, 0, 0);
            case Ops.ZERO -> Ops.steps(x, 1, Ops.PART, 0, 0);
            case Ops.SUM -> Ops.steps(x, 1, Ops.READ, 1, 0, Ops.ADD, 1, 0);
            case Ops.LACK -> Ops.steps(x, 1, Ops.GIVE, 2, 2);
            case Ops.UNLIKE -> Ops.steps(x, 1, Ops.GIVE, 2, 3);
            case Ops.TOLD -> Ops.steps(x, 1, Ops.FAIL, 5, 0);
            default -> Ops.steps(x, 1, Ops.DO, 1, 0);
        }
        return x;
    }

    private static void catchingEach() {
        for (int failure = Ops.NULL; failure <= Ops.DEEP; failure++) {
            SeedExchange x = thatFailsBy(failure);
            int t = Ops.playSteps(x, Ops.PUT, 4, 0, Ops.SAY, 0, 0, Ops.CATCH, 1, 0, Ops.SAY, 0, 0, Ops.WRITE, 8, 0);
            due.is("it goes on behind " + failure, x.ticket(t, 0), Ops.DONE);
            due.is("ahead of it", x.answer(t, 0), 4);
            due.is("X behind " + failure, x.answer(t, 1), -1 - failure);
            due.is("answers are gone", x.answer(t, 2), 0);
            due.is("what it wrote is gone", x.cell(9, 0), 0);
            due.is("acts are gone", x.count(6), 0);
            due.is("the later write", x.value(8), -1 - failure);
            due.is("it has not failed", x.ticket(t, 3) + x.ticket(t, 4) + x.tried(t, 3), 0);
            t = Ops.play(x, 1);
            due.is("not caught", x.ticket(t, 3), failure);
        }
    }

    private static void firstOfTwo() {
        SeedExchange x = new SeedExchange();
        Ops.steps(x, 1, Ops.MORE, 2, 0, Ops.WRITE, 1, 0, Ops.SAY, 0, 0, Ops.AFTER, 0, 0);
        Ops.steps(x, 2, Ops.FAIL, 1, 0);
        int t = Ops.playSteps(x, Ops.PUT, 5, 0, Ops.OR, 1, 2, Ops.SAY, 0, 0);
        due.is("done", x.ticket(t, 0), Ops.DONE);
        due.is("its answer stays", x.answer(t, 0), 7);
        due.is("X goes out", x.answer(t, 1), 7);
        due.is("what it wrote stays", x.value(1), 7);
        due.is("its act stays", x.noted(0), 7);
        due.is("the other is not done", x.tried(t, 0), 3 + 4);
        t = Ops.playSteps(x, Ops.OR, 1, 1);
        due.is("only once", x.answer(t, 1), 0);
        t = Ops.playSteps(x, Ops.OR, 2, 2);
        due.is("both fail", x.ticket(t, 0), Ops.FAILED);
        due.is("both were done", x.tried(t, 0), 3);
    }

    private static void partsWithinParts() {
        SeedExchange x = new SeedExchange();
        x.number(0, 1);
        // Trade 3 is caught within trade 2, which goes on, writes, and waits; trade 4 is done instead.
        Ops.steps(x, 3, Ops.PUT, 30, 0, Ops.WRITE, 0, 0, Ops.WRITE, 3, 0, Ops.SAY, 0, 0, Ops.FAIL, 1, 0);
        Ops.steps(x, 2, Ops.PUT, 20, 0, Ops.WRITE, 0, 0, Ops.CATCH, 3, 0, Ops.READ, 0, 0, Ops.WRITE, 2, 0, Ops.SAY, 0, 0, Ops.WAIT, 0, 0);
        Ops.steps(x, 4, Ops.SAY, 0, 0, Ops.READ, 0, 0, Ops.SAY, 0, 0);
        int t = Ops.playSteps(x, Ops.PUT, 10, 0, Ops.WRITE, 0, 0, Ops.WRITE, 1, 0, Ops.OR, 2, 4, Ops.CATCH, 3, 0, Ops.READ, 0, 0, Ops.SAY, 0, 0);
        due.is("done", x.ticket(t, 0), Ops.DONE);
        due.is("X as ahead of the outer part", x.answer(t, 0), 10);
        due.is("cell 0 as ahead of the outer part", x.answer(t, 1), 10);
        due.is("and behind one more", x.answer(t, 2), 10);
        due.is("no more answers", x.answer(t, 3), 0);
        due.is("cell 0", x.value(0), 10);
        due.is("cell 1", x.value(1), 10);
        due.is("cell 2 is not written", x.cell(2, 0), 0);
        due.is("cell 3 is not written", x.cell(3, 0), 0);
        due.is("cells written", x.tried(t, 2), 2);
        due.is("none read that it had not written", x.tried(t, 1), 0);
        due.is("steps of all", x.tried(t, 0), 7 + 7 + 5 + 3 + 5);
    }

    private static void acting() {
        SeedExchange x = new SeedExchange();
        x.number(5, 4);
        int t = Ops.playSteps(x, Ops.PUT, 22, 0, Ops.AFTER, 0, -9, Ops.AFTER, 1, 5, Ops.PUT, 2, 0, Ops.WRITE, 5, 0, Ops.SAY, 0, 0);
        due.is("kind 0", x.note(0, 1), 0);
        due.is("its b, and X as it was then", x.noted(0), 13);
        due.is("kind 1", x.note(1, 1), 1);
        due.is("cell b behind the effect, and X as it was then", x.noted(1), 11);
        due.is("an act looks at no cell in the try", x.tried(t, 1), 0);
        due.is("it changes no X", x.answer(t, 0), 2);
        due.is("it writes none", x.tried(t, 2), 1);
        x.window(2);
        Ops.retell(x, 1, Ops.PUT, 3, 0, Ops.WRITE, 5, 0);
        Ops.retell(x, 2, Ops.PUT, 30, 0, Ops.AFTER, 1, 5);
        x.submit(1);
        t = x.submit(2);
        x.run(1);
        due.is("what only an act looks at is not read", x.ticket(t, 6), 1);
        due.is("yet it sees what stands", x.noted(2), 10);
    }

    private static void sums() {
        SeedExchange x = new SeedExchange();
        x.number(0, MIN);
        x.number(1, MAX);
        x.number(2, -1);
        int[][] beyond = {
            {Ops.READ, 0, 0, Ops.ADD, 2, 0}, {Ops.READ, 1, 0, Ops.ADD, 1, 0}, {Ops.READ, 1, 0, Ops.MORE, 1, 0},
            {Ops.READ, 0, 0, Ops.MORE, -1, 0}, {Ops.READ, 0, 0, Ops.TIMES, -1, 0}, {Ops.READ, 1, 0, Ops.TIMES, 2, 0},
            {Ops.READ, 0, 0, Ops.PART, 2, 0},
        };
        for (int[] rows : beyond) {
            int t = Ops.playSteps(x, rows);
            due.is("op " + rows[3] + " beyond", x.ticket(t, 3), Ops.SUM);
            due.is("at that step", x.way(t, 0, 1), 1);
        }
        int[][] within = {
            {Ops.READ, 0, 0, Ops.ADD, 1, 0}, {Ops.READ, 1, 0, Ops.MORE, -1, 0}, {Ops.READ, 1, 0, Ops.TIMES, -1, 0},
            {Ops.READ, 1, 0, Ops.PART, 2, 0}, {Ops.READ, 0, 0, Ops.TIMES, 1, 0},
        };
        long[] wanted = {-1, MAX - 1, -MAX, -MAX, MIN};
        for (int i = 0; i < within.length; i++) {
            Ops.retell(x, 0, within[i]);
            Ops.steps(x, 0, Ops.SAY, 0, 0);
            due.is("op " + within[i][3] + " within", x.answer(Ops.play(x, 0), 0), wanted[i]);
        }
    }

    private static void told() {
        SeedExchange x = new SeedExchange();
        int t = Ops.playSteps(x, Ops.FAIL, 12, 13);
        due.is("the failure", x.ticket(t, 3), 8);
        due.is("its a", x.ticket(t, 4), 12);
        t = Ops.playSteps(x, Ops.WAIT, 12, 13);
        due.is("a wait is not told", x.ticket(t, 3) + x.ticket(t, 4), 0);
    }

    private static void deepFails() {
        SeedExchange x = new SeedExchange();
        int[] ops = {Ops.DO, Ops.OR};
        for (int op : ops) {
            int t = Ops.playSteps(x, op, 0, 1, Ops.WRITE, 0, 0);
            due.is("failed", x.ticket(t, 0), Ops.FAILED);
            due.is("deep", x.ticket(t, 3), Ops.DEEP);
            due.is("six steps began", x.tried(t, 0), 6);
            due.is("six trades", x.tried(t, 3), 6);
        }
        // The other of OR comes from the same depth, and so is as deep.
        Ops.retell(x, 1, Ops.OR, 2, 1);
        Ops.retell(x, 2, Ops.FAIL, 0, 0);
        int t = Ops.play(x, 1);
        due.is("deep by the first of the sixth", x.ticket(t, 3), Ops.DEEP);
        due.is("five undone, and six", x.tried(t, 0), 5 + 6);
        t = Ops.playSteps(x, Ops.CATCH, 0, 0, Ops.SAY, 0, 0);
        due.is("caught in the sixth", x.ticket(t, 0), Ops.DONE);
        due.is("there", x.answer(t, 0), -10);
        due.is("and each goes on", x.answer(t, 5), -10);
        due.is("six of them", x.answer(t, 6), 0);
        due.is("steps", x.tried(t, 0), 12);
    }

    private static void endsTheTry() {
        SeedExchange x = new SeedExchange();
        x.number(0, 1);
        Ops.steps(x, 1, Ops.WRITE, 1, 0, Ops.READ, 9, 0, Ops.WRITE, 2, 0);
        Ops.steps(x, 2, Ops.READ, 0, 0, Ops.WAIT, 0, 0, Ops.WRITE, 2, 0);
        Ops.steps(x, 3, Ops.DO, 1, 0, Ops.WRITE, 3, 0);
        Ops.steps(x, 4, Ops.DO, 2, 0, Ops.WRITE, 3, 0);
        int t = Ops.playSteps(x, Ops.DO, 3, 0, Ops.WRITE, 4, 0);
        due.is("failed", x.ticket(t, 0), Ops.FAILED);
        due.is("by it", x.ticket(t, 3), Ops.NULL);
        due.is("no step behind it", x.tried(t, 0), 4);
        t = Ops.playSteps(x, Ops.DO, 4, 0, Ops.WRITE, 4, 0);
        due.is("waits", x.ticket(t, 0), Ops.WAITING);
        due.is("no step behind it", x.tried(t, 0), 4);
        t = Ops.playSteps(x, Ops.CATCH, 4, 0, Ops.WRITE, 4, 0);
        due.is("waits through a CATCH", x.ticket(t, 0), Ops.WAITING);
        for (int c = 1; c <= 4; c++) {
            due.is("nothing is written", x.cell(c, 0), 0);
        }
    }

    private static void ways() {
        SeedExchange x = new SeedExchange();
        Ops.steps(x, 9, Ops.PUT, 0, 0, Ops.PUT, 0, 0, Ops.PUT, 0, 0, Ops.WAIT, 0, 0);
        Ops.steps(x, 5, Ops.DO, 1, 0, Ops.SKIP, 3, 0, Ops.FAIL, 0, 0, Ops.FAIL, 0, 0, Ops.FAIL, 0, 0, Ops.CATCH, 9, 0);
        Ops.steps(x, 7, Ops.OR, 8, 5);
        Ops.steps(x, 8, Ops.DO, 1, 0, Ops.FAIL, 3, 0);
        int t = Ops.playSteps(x, Ops.DO, 1, 0, Ops.DO, 7, 0, Ops.DO, 1, 0);
        due.is("waits", x.ticket(t, 0), Ops.WAITING);
        int[][] way = {{0, 1}, {7, 0}, {5, 5}, {9, 3}};
        due.is("how long", x.tried(t, 3), way.length);
        for (int i = 0; i < way.length; i++) {
            due.is("trade " + i, x.way(t, i, 0), way[i][0]);
            due.is("step " + i, x.way(t, i, 1), way[i][1]);
        }
        due.is("no more", x.way(t, way.length, 0), Ops.NONE);
    }
}
