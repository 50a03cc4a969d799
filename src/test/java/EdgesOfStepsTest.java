/** The sentences on steps, failures and parts that name an edge, a test each (Terms 2). */
public final class EdgesOfStepsTest {
    private static final long MIN = Long.MIN_VALUE, MAX = Long.MAX_VALUE;
    private static final int LEAST = Integer.MIN_VALUE, MOST = Integer.MAX_VALUE;
    private static final Due due = new Due();

    public static void main(String[] args) {
        due.sentence("X (a long, 0 at first, one for all of the TRY)", EdgesOfStepsTest::oneX);
        due.sentence("What it WRITES is seen by itself alone.", EdgesOfStepsTest::seenByItself);
        due.sentence("A CELL that it looks at and has not WRITTEN (what was undone does not count) it has READ.",
                EdgesOfStepsTest::looksAndReads);
        due.sentence("0 PUT: X is a.", EdgesOfStepsTest::put);
        due.sentence("2 WRITE: CELL a holds the NUMBER X.", EdgesOfStepsTest::write);
        due.sentence("3 ADD: X is more by the NUMBER of CELL a.", EdgesOfStepsTest::add);
        due.sentence("4 MORE: by a.", EdgesOfStepsTest::more);
        due.sentence("5 TIMES: X is a times as much.", EdgesOfStepsTest::times);
        due.sentence("6 PART: X by the NUMBER of CELL a, cut toward 0.", EdgesOfStepsTest::part);
        due.sentence("4 ZERO: (PART) by 0.", EdgesOfStepsTest::zero);
        due.sentence("2 INDEX: (AT) there is no CELL X.", EdgesOfStepsTest::index);
        due.sentence("8 BELOW: X is 1, if it is below the NUMBER of CELL a, else 0.", EdgesOfStepsTest::below);
        due.sentence("9 GRAMS: X is the GRAMS of the LOT in CELL a.", EdgesOfStepsTest::grams);
        due.sentence("both are WRITTEN; a may be b", EdgesOfStepsTest::giveWrites);
        due.sentence("6 LACK: (GIVE) X is below 0, above the GRAMS of a", EdgesOfStepsTest::lackOfA);
        due.sentence("the LOT in b would have more than 1000000000 (a and b being two)", EdgesOfStepsTest::tooMuchForB);
        due.sentence("7 UNLIKE: (GIVE) the LOTS have unlike KINDS.", EdgesOfStepsTest::unlike);
        due.sentence("GIVE: NULL, CAST of a, then of b; UNLIKE; LACK.", EdgesOfStepsTest::firstFailureOfGive);
        due.sentence("hold what the other one held (NOTHING, too; both are WRITTEN)", EdgesOfStepsTest::swap);
        due.sentence("the 9th and later ones are not kept", EdgesOfStepsTest::eightAnswers);
        due.sentence("13 SKIP: if X is 0, the next a STEPS are passed over (0 .. 24).", EdgesOfStepsTest::skip);
        due.sentence("1 NULL: a CELL that is looked at as a NUMBER or LOT holds NOTHING.", EdgesOfStepsTest::looksAtNothing);
        due.sentence("3 CAST: it holds a LOT for a NUMBER, or the other way round.", EdgesOfStepsTest::looksAtTheOther);
        due.sentence("if that FAILS (not by SPENT)", EdgesOfStepsTest::catches);
        due.sentence("if that WAITS, or FAILS by TOLD", EdgesOfStepsTest::otherWays);
        due.sentence("X is as ahead of it, and TRADE b is done as a PART", EdgesOfStepsTest::otherWayBegins);
        due.sentence("CELLS that it WROTE are as ahead of it, its ANSWERS and acts are gone", EdgesOfStepsTest::undone);
        due.sentence("(X, what it READ, STEPS stay)", EdgesOfStepsTest::staysBehindUndoing);
        due.sentence("9 DEEP: a PART would be the seventh TRADE within one another", EdgesOfStepsTest::deep);
        due.sentence("the WAY ends at the STEP that was to do it", EdgesOfStepsTest::wayOfDeep);
        due.sentence("10 SPENT: the 41st STEP of a TRY would begin.", EdgesOfStepsTest::spent);
        due.sentence("the TICKET's first, the one where it arose last", EdgesOfStepsTest::ways);
        due.end();
    }

    private static void said(String text, SeedExchange x, int t, long want) {
        due.is(text + ", state", x.ticket(t, 0), Ops.DONE);
        due.is(text, x.answer(t, 0), want);
    }

    private static void failed(String text, SeedExchange x, int t, int want) {
        due.is(text + ", state", x.ticket(t, 0), Ops.FAILED);
        due.is(text, x.ticket(t, 3), want);
    }

    /** X as it is and a number of cell 0, put together by an op: a failure (1 to 10), or what X is then. */
    private static void reckon(int op, long x, long n, int failure, long want) {
        SeedExchange e = new SeedExchange();
        e.number(0, n);
        e.number(39, x);
        int a = op == Ops.MORE || op == Ops.TIMES ? (int) n : 0;
        int t = Ops.playSteps(e, Ops.READ, 39, 0, op, a, 0, Ops.SAY, 0, 0);
        String text = "op " + op + " of " + x + ", " + n;
        if (failure == 0) {
            said(text, e, t, want);
        } else {
            failed(text, e, t, failure);
            due.is("it arose", e.way(t, 0, 1), 1);
        }
    }

    private static void oneX() {
        SeedExchange x = new SeedExchange();
        x.number(0, MIN);
        Ops.steps(x, 1, Ops.MORE, 1, 0, Ops.SAY, 0, 0, Ops.PUT, 8, 0);
        int t = Ops.playSteps(x, Ops.SAY, 0, 0, Ops.READ, 0, 0, Ops.DO, 1, 0, Ops.SAY, 0, 0, Ops.CATCH, 1, 0, Ops.SAY, 0, 0);
        long[] all = {0, MIN + 1, 8, 9, 8};
        for (int i = 0; i < all.length; i++) {
            due.is("X " + i, x.answer(t, i), all[i]);
        }
        due.is("0 in the next try", x.answer(Ops.play(x, 0), 0), 0);
        x.clash(0, 1);
        t = Ops.play(x, 0);
        due.is("0 as it is tried once more", x.answer(t, 0), 0);
        due.is("five answers as it is tried once more", x.answer(t, 4), 8);
        due.is("and no more", x.answer(t, 5), 0);
    }

    private static void seenByItself() {
        SeedExchange x = new SeedExchange();
        x.window(3);
        x.number(0, 1);
        Ops.steps(x, 0, Ops.PUT, 2, 0, Ops.WRITE, 0, 0, Ops.WRITE, 1, 0, Ops.READ, 0, 0, Ops.SAY, 0, 0, Ops.FAIL, 0, 0);
        Ops.steps(x, 1, Ops.PUT, 3, 0, Ops.WRITE, 0, 0, Ops.WAIT, 0, 0);
        Ops.steps(x, 2, Ops.READ, 0, 0, Ops.SAY, 0, 0, Ops.READ, 1, 0);
        for (int trade = 0; trade < 3; trade++) {
            x.submit(trade);
        }
        x.run(1);
        failed("not by one behind it", x, 2, Ops.NULL);
        due.is("tried once", x.ticket(2, 6), 1);
        due.is("what failed or waits wrote nothing", x.value(0), 1);
        due.is("what failed wrote nothing", x.holds(1), 0);
        due.is("no version", x.cell(0, 0), 1);
        int t = Ops.playSteps(x, Ops.PUT, 4, 0, Ops.WRITE, 1, 0, Ops.READ, 1, 0, Ops.SAY, 0, 0);
        said("by itself", x, t, 4);
    }

    private static void looksAndReads() {
        SeedExchange x = new SeedExchange();
        x.number(0, 1);
        x.number(39, 39);
        Ops.steps(x, 1, Ops.WRITE, 0, 0, Ops.FAIL, 0, 0);
        int t = Ops.playSteps(x, Ops.WRITE, 0, 0, Ops.READ, 0, 0, Ops.ADD, 39, 0);
        due.is("written, then looked at", x.read(t, 0), 0);
        due.is("looked at", x.read(t, 39), 1);
        due.is("how many", x.tried(t, 1), 1);
        t = Ops.playSteps(x, Ops.READ, 0, 0, Ops.READ, 0, 0, Ops.WRITE, 0, 0);
        due.is("looked at twice, then written", x.read(t, 0), 1);
        due.is("how many", x.tried(t, 1), 1);
        t = Ops.playSteps(x, Ops.CATCH, 1, 0, Ops.READ, 0, 0);
        due.is("written, undone, then looked at", x.read(t, 0), 1);
        t = Ops.playSteps(x, Ops.WRITE, 0, 0, Ops.CATCH, 1, 0, Ops.READ, 0, 0);
        due.is("written ahead of what was undone", x.read(t, 0), 0);
        t = Ops.playSteps(x, Ops.AFTER, 1, 39);
        due.is("an act looks behind the effect", x.tried(t, 1), 0);
        x.number(2, 2);
        t = Ops.playSteps(x, Ops.SWAP, 2, 3, Ops.READ, 3, 0);
        due.is("a swap looks at both", x.tried(t, 1), 2);
        t = Ops.playSteps(x, Ops.WRITE, 2, 0, Ops.SWAP, 2, 3, Ops.SWAP, 3, 4);
        due.is("a swap of a cell that was written", x.read(t, 2), 0);
        due.is("a swap of cells that were not", x.read(t, 3) + x.read(t, 4), 2);
        x.lot(5, 0, 0, 1);
        x.lot(6, 0, 0, 1);
        t = Ops.playSteps(x, Ops.SWAP, 5, 7, Ops.GIVE, 7, 6, Ops.GIVE, 7, 6);
        due.is("give looks at both", x.read(t, 5) + x.read(t, 6) + x.read(t, 7), 3);
    }

    private static void put() {
        int[] all = {LEAST, -1, 0, 1, MOST};
        for (int a : all) {
            SeedExchange x = new SeedExchange();
            said("put " + a, x, Ops.playSteps(x, Ops.PUT, a, 0, Ops.SAY, 0, 0), a);
        }
    }

    private static void write() {
        int[] cells = {0, 39};
        long[] numbers = {MIN, 0, MAX};
        for (int c : cells) {
            for (long v : numbers) {
                SeedExchange x = new SeedExchange();
                x.number(5, v);
                x.lot(c, 1, 2, 3);
                Ops.playSteps(x, Ops.READ, 5, 0, Ops.WRITE, c, 0);
                due.is("over a lot", x.value(c), v);
                due.is("over a lot", x.holds(c), 1);
                due.is("over a lot", x.cell(c, 2), Ops.NONE);
                x.empty(c);
                Ops.play(x, 0);
                due.is("over nothing", x.value(c), v);
            }
        }
    }

    private static void add() {
        reckon(Ops.ADD, 1, MAX - 1, 0, MAX);
        reckon(Ops.ADD, 1, MAX, Ops.SUM, 0);
        reckon(Ops.ADD, MAX, 1, Ops.SUM, 0);
        reckon(Ops.ADD, MAX, MAX, Ops.SUM, 0);
        reckon(Ops.ADD, -1, MIN + 1, 0, MIN);
        reckon(Ops.ADD, -1, MIN, Ops.SUM, 0);
        reckon(Ops.ADD, MIN, -1, Ops.SUM, 0);
        reckon(Ops.ADD, MIN, MIN, Ops.SUM, 0);
        reckon(Ops.ADD, MIN, MAX, 0, -1);
        reckon(Ops.ADD, MAX, MIN, 0, -1);
        reckon(Ops.ADD, MIN, 0, 0, MIN);
        reckon(Ops.ADD, 0, MAX, 0, MAX);
    }

    private static void more() {
        reckon(Ops.MORE, MAX - 1, 1, 0, MAX);
        reckon(Ops.MORE, MAX, 1, Ops.SUM, 0);
        reckon(Ops.MORE, MAX - MOST, MOST, 0, MAX);
        reckon(Ops.MORE, MAX - MOST + 1, MOST, Ops.SUM, 0);
        reckon(Ops.MORE, MIN + 1, -1, 0, MIN);
        reckon(Ops.MORE, MIN, -1, Ops.SUM, 0);
        reckon(Ops.MORE, MIN - LEAST, LEAST, 0, MIN);
        reckon(Ops.MORE, MIN - LEAST - 1, LEAST, Ops.SUM, 0);
        reckon(Ops.MORE, MAX, 0, 0, MAX);
        reckon(Ops.MORE, MOST, MOST, 0, 2L * MOST);
    }

    private static void times() {
        reckon(Ops.TIMES, MAX, 1, 0, MAX);
        reckon(Ops.TIMES, MIN, 1, 0, MIN);
        reckon(Ops.TIMES, MAX, 0, 0, 0);
        reckon(Ops.TIMES, MIN, 0, 0, 0);
        reckon(Ops.TIMES, 0, LEAST, 0, 0);
        reckon(Ops.TIMES, MAX, -1, 0, MIN + 1);
        reckon(Ops.TIMES, MIN, -1, Ops.SUM, 0);
        reckon(Ops.TIMES, MIN + 1, -1, 0, MAX);
        reckon(Ops.TIMES, MAX / 2, 2, 0, MAX - 1);
        reckon(Ops.TIMES, MAX / 2 + 1, 2, Ops.SUM, 0);
        reckon(Ops.TIMES, MIN / 2, 2, 0, MIN);
        reckon(Ops.TIMES, MIN / 2 - 1, 2, Ops.SUM, 0);
        reckon(Ops.TIMES, MAX / 2 + 1, -2, 0, MIN);
        reckon(Ops.TIMES, MIN / 2, -2, Ops.SUM, 0);
        reckon(Ops.TIMES, MAX / MOST, MOST, 0, MAX / MOST * MOST);
        reckon(Ops.TIMES, MAX / MOST + 1, MOST, Ops.SUM, 0);
        reckon(Ops.TIMES, 1L << 32, LEAST, 0, MIN);
        reckon(Ops.TIMES, (1L << 32) + 1, LEAST, Ops.SUM, 0);
        reckon(Ops.TIMES, -(1L << 32), LEAST, Ops.SUM, 0);
        reckon(Ops.TIMES, MIN, LEAST, Ops.SUM, 0);
        reckon(Ops.TIMES, MOST, MOST, 0, (long) MOST * MOST);
    }

    private static void part() {
        reckon(Ops.PART, 7, 2, 0, 3);
        reckon(Ops.PART, -7, 2, 0, -3);
        reckon(Ops.PART, 7, -2, 0, -3);
        reckon(Ops.PART, -7, -2, 0, 3);
        reckon(Ops.PART, 1, 2, 0, 0);
        reckon(Ops.PART, -1, 2, 0, 0);
        reckon(Ops.PART, MIN, -1, Ops.SUM, 0);
        reckon(Ops.PART, MIN + 1, -1, 0, MAX);
        reckon(Ops.PART, MAX, -1, 0, MIN + 1);
        reckon(Ops.PART, MIN, 1, 0, MIN);
        reckon(Ops.PART, MIN, MIN, 0, 1);
        reckon(Ops.PART, MAX, MIN, 0, 0);
        reckon(Ops.PART, MIN, MAX, 0, -1);
        reckon(Ops.PART, MIN, 2, 0, MIN / 2);
    }

    private static void zero() {
        long[] all = {0, 1, -1, MIN, MAX};
        for (long x : all) {
            reckon(Ops.PART, x, 0, Ops.ZERO, 0);
        }
    }

    private static void index() {
        long[] none = {-1, 40, 41, MOST, LEAST, 1L << 32, (1L << 32) + 5, -(1L << 32), MIN, MAX};
        for (long c : none) {
            SeedExchange x = new SeedExchange();
            x.number(0, c);
            x.number(5, 6);
            int t = Ops.playSteps(x, Ops.READ, 0, 0, Ops.AT, 0, 0);
            failed("cell " + c, x, t, Ops.INDEX);
            due.is("it looked at none", x.tried(t, 1), 1);
        }
        int[] edges = {0, 39};
        for (int c : edges) {
            SeedExchange x = new SeedExchange();
            x.number(c, 77);
            int t = Ops.playSteps(x, Ops.PUT, c, 0, Ops.AT, LEAST, MOST, Ops.SAY, 0, 0);
            said("cell " + c, x, t, 77);
            due.is("it looked at it", x.read(t, c), 1);
        }
    }

    private static void below() {
        reckon(Ops.BELOW, 4, 5, 0, 1);
        reckon(Ops.BELOW, 5, 5, 0, 0);
        reckon(Ops.BELOW, 6, 5, 0, 0);
        reckon(Ops.BELOW, MIN, MAX, 0, 1);
        reckon(Ops.BELOW, MAX, MIN, 0, 0);
        reckon(Ops.BELOW, MIN, MIN, 0, 0);
        reckon(Ops.BELOW, MAX, MAX, 0, 0);
        reckon(Ops.BELOW, MIN, MIN + 1, 0, 1);
    }

    private static void grams() {
        int[] all = {0, 1, Ops.MOST_GRAMS};
        int[] cells = {0, 39};
        for (int g : all) {
            for (int c : cells) {
                SeedExchange x = new SeedExchange();
                x.lot(c, 0, 0, g);
                said("grams", x, Ops.playSteps(x, Ops.PUT, -1, 0, Ops.GRAMS, c, 0, Ops.SAY, 0, 0), g);
            }
        }
    }

    /** What GIVE does with so much from cell 0 to cell b; kinds alike, growers 1 and 2. */
    private static int give(SeedExchange x, long much, int b, int had, int had39) {
        x.lot(0, 3, 1, had);
        x.lot(39, 3, 2, had39);
        x.number(7, much);
        return Ops.playSteps(x, Ops.READ, 7, 0, Ops.GIVE, 0, b);
    }

    private static void gives(long much, int b, int had, int had39, boolean fits) {
        SeedExchange x = new SeedExchange();
        int t = give(x, much, b, had, had39);
        String text = "give " + much + " of " + had + " to " + b + " with " + had39;
        boolean moves = fits && b != 0;
        if (fits) {
            due.is(text, x.ticket(t, 0), Ops.DONE);
        } else {
            failed(text, x, t, Ops.LACK);
        }
        due.is(text + ", of a", x.value(0), moves ? had - much : had);
        due.is(text + ", of b", x.value(39), moves ? had39 + much : had39);
        due.is(text + ", version of a", x.cell(0, 0), fits ? 2 : 1);
    }

    private static void giveWrites() {
        SeedExchange x = new SeedExchange();
        int t = give(x, 0, 39, 10, 20);
        due.is("0 grams, a is written", x.cell(0, 1), t);
        due.is("0 grams, b is written", x.cell(39, 1), t);
        due.is("0 grams", x.tried(t, 2), 2);
        t = give(x, 10, 0, 10, 20);
        due.is("to itself, written", x.cell(0, 1), t);
        due.is("to itself, one cell", x.tried(t, 2), 1);
        due.is("to itself, its grams", x.value(0), 10);
        t = give(x, 10, 39, 10, 20);
        due.is("a lot of 0 grams is one", x.holds(0), 2);
        due.is("both", x.tried(t, 2), 2);
        due.is("its kind", x.cell(0, 2), 3);
        due.is("its grower", x.cell(0, 3), 1);
        due.is("the grower of b", x.cell(39, 3), 2);
        t = Ops.playSteps(x, Ops.WRITE, 8, 0, Ops.GIVE, 0, 39, Ops.SWAP, 9, 10);
        due.is("and what was written ahead of it", x.tried(t, 2), 5);
        due.is("and what was written ahead of it", x.holds(8), 1);
    }

    private static void lackOfA() {
        int[] to = {0, 39};
        for (int b : to) {
            gives(-1, b, 10, 20, false);
            gives(0, b, 10, 20, true);
            gives(10, b, 10, 20, true);
            gives(11, b, 10, 20, false);
            gives(0, b, 0, 20, true);
            gives(1, b, 0, 20, false);
            gives(MIN, b, 10, 20, false);
            gives(MAX, b, 10, 20, false);
            gives(1L << 32, b, 10, 20, false);
        }
    }

    private static void tooMuchForB() {
        int most = Ops.MOST_GRAMS;
        gives(10, 39, 20, most - 10, true);
        gives(11, 39, 20, most - 10, false);
        gives(0, 39, 20, most, true);
        gives(1, 39, 20, most, false);
        gives(most, 39, most, 0, true);
        gives(most, 39, most, 1, false);
        gives(most, 39, most, most, false);
        gives(most, 0, most, 0, true);
        gives(1, 0, most, 0, true);
        gives(most + 1L, 0, most, 0, false);
    }

    private static void unlike() {
        SeedExchange x = new SeedExchange();
        x.lot(0, 0, 3, 5);
        x.lot(1, 7, 3, 5);
        x.lot(2, 0, 4, 5);
        int t = Ops.playSteps(x, Ops.GIVE, 0, 1);
        failed("unlike kinds, 0 grams", x, t, Ops.UNLIKE);
        due.is("both are read", x.tried(t, 1), 2);
        due.is("none is written", x.cell(0, 0) + x.cell(1, 0), 2);
        t = Ops.playSteps(x, Ops.PUT, 5, 0, Ops.GIVE, 0, 2);
        due.is("unlike growers are fine", x.ticket(t, 0), Ops.DONE);
    }

    /** Cells: 0 and 1 nothing, 2 and 3 numbers, 4 and 5 lots of kind 1, 6 one of kind 2. */
    private static void firstFailureOfGive() {
        int[][] rows = {{0, 1, Ops.NULL, 1}, {0, 2, Ops.NULL, 1}, {0, 4, Ops.NULL, 1}, {2, 0, Ops.CAST, 1}, {2, 3, Ops.CAST, 1},
            {2, 4, Ops.CAST, 1}, {4, 0, Ops.NULL, 2}, {4, 2, Ops.CAST, 2}, {4, 6, Ops.UNLIKE, 2}, {4, 5, Ops.LACK, 2},
            {0, 0, Ops.NULL, 1}, {2, 2, Ops.CAST, 1}, {4, 4, Ops.LACK, 1}};
        int[] lacking = {-1, 100};
        for (int[] row : rows) {
            for (int much : lacking) {
                SeedExchange x = new SeedExchange();
                x.number(2, 1);
                x.number(3, 1);
                x.lot(4, 1, 1, 9);
                x.lot(5, 1, 1, 9);
                x.lot(6, 2, 1, 9);
                int t = Ops.playSteps(x, Ops.PUT, much, 0, Ops.GIVE, row[0], row[1]);
                failed("give " + row[0] + " to " + row[1], x, t, row[2]);
                due.is("looked at", x.tried(t, 1), row[3]);
            }
        }
    }

    private static void swap() {
        SeedExchange x = new SeedExchange();
        x.number(1, 9);
        x.lot(39, 5, 6, 7);
        int t = Ops.playSteps(x, Ops.SWAP, 2, 3);
        due.is("nothing for nothing", x.holds(2) + x.holds(3), 0);
        due.is("both are written", x.cell(2, 0) + x.cell(3, 0), 2);
        due.is("both are written", x.tried(t, 2), 2);
        Ops.playSteps(x, Ops.SWAP, 0, 39);
        due.is("nothing came", x.holds(39), 0);
        due.is("no kind came", x.cell(39, 2), Ops.NONE);
        due.is("the lot went", x.cell(0, 2) * 10 + x.cell(0, 3), 56);
        due.is("its grams", x.value(0), 7);
        Ops.playSteps(x, Ops.SWAP, 0, 1);
        due.is("the number went", x.holds(0), 1);
        due.is("the number went", x.value(0), 9);
        due.is("the lot went", x.holds(1), 2);
        t = Ops.playSteps(x, Ops.SWAP, 1, 1);
        due.is("with itself", x.value(1), 7);
        due.is("with itself, kind", x.cell(1, 2), 5);
        due.is("with itself, written", x.cell(1, 1), t);
        due.is("with itself, one cell", x.tried(t, 2), 1);
        t = Ops.playSteps(x, Ops.SWAP, 20, 20);
        due.is("nothing with itself", x.cell(20, 1), t);
    }

    private static void eightAnswers() {
        SeedExchange x = new SeedExchange();
        Ops.steps(x, 1, Ops.SAY, 0, 0, Ops.SAY, 0, 0, Ops.FAIL, 0, 0);
        for (int i = 0; i < 7; i++) {
            Ops.steps(x, 0, Ops.MORE, 1, 0, Ops.SAY, 0, 0);
        }
        int t = Ops.play(x, 0);
        due.is("the 7th", x.answer(t, 6), 7);
        due.is("no 8th", x.answer(t, 7), 0);
        Ops.steps(x, 0, Ops.CATCH, 1, 0, Ops.SAY, 0, 0, Ops.SAY, 0, 0, Ops.SAY, 0, 0);
        t = Ops.play(x, 0);
        for (int i = 0; i < 7; i++) {
            due.is("answer " + i, x.answer(t, i), i + 1);
        }
        due.is("the 8th, where others were undone", x.answer(t, 7), -1 - Ops.TOLD);
        due.is("no 9th", x.answer(t, 8), 0);
        due.is("no 10th", x.answer(t, 9), 0);
        due.is("it is done", x.ticket(t, 0), Ops.DONE);
    }

    private static void skip() {
        long[] notZero = {1, -1, MIN, MAX, 1L << 32};
        for (long v : notZero) {
            SeedExchange x = new SeedExchange();
            x.number(0, v);
            int t = Ops.playSteps(x, Ops.READ, 0, 0, Ops.SKIP, 1, 0, Ops.SAY, 0, 0);
            said("X is not 0", x, t, v);
        }
        SeedExchange x = new SeedExchange();
        int t = Ops.playSteps(x, Ops.SKIP, 0, 0, Ops.FAIL, 6, 0);
        due.is("0 steps", x.ticket(t, 4), 6);
        t = Ops.playSteps(x, Ops.SKIP, 1, 0, Ops.FAIL, 6, 0, Ops.FAIL, 7, 0);
        due.is("1 step", x.ticket(t, 4), 7);
        due.is("what is passed over is not begun", x.tried(t, 0), 2);
        x.drop(0);
        Ops.steps(x, 0, Ops.SKIP, 23, 0);
        for (int i = 0; i < 23; i++) {
            Ops.steps(x, 0, Ops.FAIL, i, 0);
        }
        due.is("to the end", x.ticket(Ops.play(x, 0), 0), Ops.DONE);
        Ops.steps(x, 1, Ops.SKIP, 24, 0);
        Ops.steps(x, 2, Ops.DO, 1, 0, Ops.DO, 1, 0, Ops.FAIL, 3, 0);
        t = Ops.play(x, 2);
        due.is("24 of none, but not beyond the part", x.ticket(t, 4), 3);
        due.is("steps", x.tried(t, 0), 5);
        x.drop(0);
        Ops.steps(x, 0, Ops.SKIP, 22, 0);
        for (int i = 1; i < 24; i++) {
            Ops.steps(x, 0, Ops.FAIL, i, 0);
        }
        due.is("all but the last", x.ticket(Ops.play(x, 0), 4), 23);
    }

    private static void looksAtNothing() {
        int[] all = {Ops.READ, Ops.ADD, Ops.PART, Ops.AT, Ops.BELOW, Ops.GRAMS, Ops.GIVE};
        for (int op : all) {
            SeedExchange x = new SeedExchange();
            int t = Ops.playSteps(x, op, 0, 0);
            failed("op " + op, x, t, Ops.NULL);
            due.is("it was looked at", x.read(t, 0), 1);
            x.number(0, 0);
            x.empty(0);
            failed("emptied, op " + op, x, Ops.play(x, 0), Ops.NULL);
        }
        SeedExchange x = new SeedExchange();
        x.number(0, 5);
        failed("swapped away in the try", x, Ops.playSteps(x, Ops.SWAP, 0, 1, Ops.READ, 0, 0), Ops.NULL);
    }

    private static void looksAtTheOther() {
        int[] forNumbers = {Ops.READ, Ops.ADD, Ops.PART, Ops.AT, Ops.BELOW};
        for (int op : forNumbers) {
            SeedExchange x = new SeedExchange();
            x.lot(0, 0, 0, 0);
            int t = Ops.playSteps(x, op, 0, 0);
            failed("a lot for a number, op " + op, x, t, Ops.CAST);
            due.is("it was looked at", x.read(t, 0), 1);
        }
        int[] forLots = {Ops.GRAMS, Ops.GIVE};
        for (int op : forLots) {
            SeedExchange x = new SeedExchange();
            x.number(0, 0);
            int t = Ops.playSteps(x, op, 0, 0);
            failed("a number for a lot, op " + op, x, t, Ops.CAST);
            due.is("it was looked at", x.read(t, 0), 1);
        }
        SeedExchange x = new SeedExchange();
        x.lot(0, 0, 0, 5);
        failed("written over in the try", x, Ops.playSteps(x, Ops.WRITE, 0, 0, Ops.GRAMS, 0, 0), Ops.CAST);
    }

    /** Trade 1 ends by that failure (1 to 10), or WAITS (11). */
    private static SeedExchange thatEndsBy(int end) {
        SeedExchange x = new SeedExchange();
        x.lot(1, 1, 1, 5);
        x.number(2, 0);
        x.number(3, MAX);
        x.lot(4, 2, 1, 5);
        int[][] trades = {{}, {Ops.READ, 0, 0}, {Ops.PUT, 40, 0, Ops.AT, 0, 0}, {Ops.READ, 1, 0}, {Ops.PART, 2, 0},
            {Ops.READ, 3, 0, Ops.MORE, 1, 0}, {Ops.PUT, 6, 0, Ops.GIVE, 1, 1}, {Ops.GIVE, 1, 4}, {Ops.FAIL, 12, 0},
            {Ops.DO, 1, 0}, {Ops.DO, 2, 0, Ops.DO, 2, 0}, {Ops.WAIT, 0, 0}};
        Ops.steps(x, 1, trades[end]);
        for (int i = 0; i < 20; i++) {
            Ops.steps(x, 2, Ops.PUT, 0, 0);
        }
        return x;
    }

    private static void catches() {
        for (int failure = 1; failure <= 9; failure++) {
            SeedExchange x = thatEndsBy(failure);
            int t = Ops.playSteps(x, Ops.PUT, 3, 0, Ops.CATCH, 1, 0, Ops.SAY, 0, 0);
            said("failure " + failure, x, t, -1 - failure);
            due.is("no failure", x.ticket(t, 3), 0);
            due.is("nothing told", x.ticket(t, 4), 0);
            due.is("no way", x.tried(t, 3), 0);
        }
        SeedExchange x = thatEndsBy(10);
        int t = Ops.playSteps(x, Ops.CATCH, 1, 0, Ops.SAY, 0, 0);
        failed("SPENT is not caught", x, t, Ops.SPENT);
        x = thatEndsBy(11);
        t = Ops.playSteps(x, Ops.CATCH, 1, 0, Ops.SAY, 0, 0);
        due.is("WAIT is not caught", x.ticket(t, 0), Ops.WAITING);
        x = thatEndsBy(0);
        t = Ops.playSteps(x, Ops.PUT, 3, 0, Ops.CATCH, 1, 0, Ops.SAY, 0, 0);
        said("a part without steps does not fail", x, t, 3);
    }

    private static void otherWays() {
        for (int end = 1; end <= 11; end++) {
            SeedExchange x = thatEndsBy(end);
            Ops.steps(x, 3, Ops.PUT, 44, 0, Ops.SAY, 0, 0);
            int t = Ops.playSteps(x, Ops.OR, 1, 3);
            if (end == Ops.TOLD || end == 11) {
                said("end " + end, x, t, 44);
                due.is("nothing told", x.ticket(t, 4), 0);
            } else {
                failed("end " + end, x, t, end);
            }
        }
        SeedExchange x = thatEndsBy(0);
        Ops.steps(x, 3, Ops.FAIL, 5, 0);
        int t = Ops.playSteps(x, Ops.OR, 1, 3);
        due.is("the first way went", x.ticket(t, 0), Ops.DONE);
        t = Ops.playSteps(x, Ops.OR, 3, 1);
        due.is("the other way without steps", x.ticket(t, 0), Ops.DONE);
        t = Ops.playSteps(x, Ops.OR, 3, 3);
        due.is("neither", x.ticket(t, 4), 5);
        due.is("the way of the other", x.tried(t, 3), 2);
        due.is("its steps", x.tried(t, 0), 3);
    }

    private static void otherWayBegins() {
        SeedExchange x = new SeedExchange();
        x.number(0, MIN);
        Ops.steps(x, 1, Ops.PUT, 5, 0, Ops.WRITE, 1, 0, Ops.WAIT, 0, 0);
        Ops.steps(x, 2, Ops.SAY, 0, 0, Ops.READ, 1, 0);
        int t = Ops.playSteps(x, Ops.READ, 0, 0, Ops.OR, 1, 2);
        failed("what the first wrote is undone", x, t, Ops.NULL);
        x.number(1, 7);
        t = Ops.playSteps(x, Ops.READ, 0, 0, Ops.OR, 1, 2, Ops.SAY, 0, 0);
        said("X as ahead of it", x, t, MIN);
        due.is("X of the other goes on", x.answer(t, 1), 7);
    }

    private static void undone() {
        SeedExchange x = new SeedExchange();
        x.number(0, 1);
        x.lot(1, 2, 3, 4);
        x.lot(2, 2, 4, 5);
        Ops.steps(x, 1, Ops.PUT, 9, 0, Ops.WRITE, 0, 0, Ops.SAY, 0, 0, Ops.AFTER, 0, 0, Ops.PUT, 1, 0, Ops.GIVE, 1, 2);
        Ops.steps(x, 1, Ops.SWAP, 1, 3, Ops.SWAP, 39, 0, Ops.FAIL, 0, 0);
        int t = Ops.playSteps(x, Ops.CATCH, 1, 0);
        due.is("done", x.ticket(t, 0), Ops.DONE);
        due.is("nothing written", x.tried(t, 2), 0);
        due.is("no answers", x.answer(t, 0), 0);
        due.is("no acts", x.count(6), 0);
        due.is("versions", x.cell(0, 0) + x.cell(1, 0) + x.cell(2, 0), 3);
        due.is("versions", x.cell(3, 0) + x.cell(39, 0), 0);
        int[] ahead = {Ops.PUT, 6, 0, Ops.WRITE, 0, 0, Ops.SAY, 0, 0, Ops.AFTER, 0, 100, Ops.SWAP, 2, 3};
        Ops.retell(x, 0, ahead);
        Ops.steps(x, 0, Ops.CATCH, 1, 0, Ops.READ, 0, 0, Ops.SAY, 0, 0, Ops.GRAMS, 3, 0, Ops.SAY, 0, 0);
        t = Ops.play(x, 0);
        due.is("said ahead of it", x.answer(t, 0), 6);
        due.is("as ahead of it", x.answer(t, 1), 6);
        due.is("as ahead of it", x.answer(t, 2), 5);
        due.is("no more answers", x.answer(t, 3), 0);
        due.is("written ahead of it", x.tried(t, 2), 3);
        due.is("act ahead of it", x.noted(0), 106);
        due.is("no more acts", x.count(6), 1);
        due.is("its grower", x.cell(3, 3), 4);
    }

    private static void staysBehindUndoing() {
        SeedExchange x = new SeedExchange();
        x.number(0, 1);
        x.number(1, 2);
        Ops.steps(x, 1, Ops.READ, 0, 0, Ops.READ, 1, 0, Ops.FAIL, 0, 0);
        Ops.steps(x, 2, Ops.SAY, 0, 0);
        int t = Ops.playSteps(x, Ops.OR, 1, 2, Ops.CATCH, 1, 0, Ops.WAIT, 0, 0);
        due.is("it waits", x.ticket(t, 0), Ops.WAITING);
        due.is("what it read stays", x.read(t, 0) + x.read(t, 1), 2);
        due.is("steps stay", x.tried(t, 0), 10);
        x.number(1, 2);
        due.is("it is woken by what was read in what was undone", x.woken(t, 0), 1);
        Ops.retell(x, 3, Ops.CATCH, 1, 0, Ops.SAY, 0, 0, Ops.CATCH, 4, 0, Ops.SAY, 0, 0);
        Ops.steps(x, 4, Ops.PUT, 50, 0);
        t = x.submit(3);
        x.run(2);
        due.is("X is what the catch says", x.answer(t, 0), -1 - Ops.TOLD);
        due.is("X of a part that was not undone stays", x.answer(t, 1), 50);
    }

    /** Trades first .. 15 do each the next one, the last one has no steps. */
    private static SeedExchange chain(int first, int op) {
        SeedExchange x = new SeedExchange();
        for (int trade = first; trade < 15; trade++) {
            Ops.steps(x, trade, op, trade + 1, trade + 1);
        }
        return x;
    }

    private static void deep() {
        int[] ops = {Ops.DO, Ops.CATCH, Ops.OR};
        for (int op : ops) {
            SeedExchange x = chain(9, op);
            due.is("six by op " + op, x.ticket(Ops.play(x, 10), 0), Ops.DONE);
        }
        SeedExchange x = chain(9, Ops.DO);
        failed("a seventh, though it has no steps", x, Ops.play(x, 9), Ops.DEEP);
        x = chain(9, Ops.OR);
        failed("DEEP has no other way", x, Ops.play(x, 9), Ops.DEEP);
        x = chain(9, Ops.CATCH);
        Ops.steps(x, 14, Ops.SAY, 0, 0);
        int t = Ops.play(x, 9);
        said("the catch that was to do it", x, t, -1 - Ops.DEEP);
        due.is("steps", x.tried(t, 0), 7);
        x = chain(10, Ops.DO);
        Ops.steps(x, 10, Ops.DO, 11, 0, Ops.DO, 11, 0);
        t = Ops.play(x, 10);
        due.is("one behind the other is not within", x.ticket(t, 0), Ops.DONE);
        due.is("steps", x.tried(t, 0), 15);
    }

    private static void wayOfDeep() {
        SeedExchange x = new SeedExchange();
        Ops.steps(x, 0, Ops.PUT, 0, 0, Ops.PUT, 0, 0, Ops.DO, 0, 0);
        int t = Ops.play(x, 0);
        failed("itself within itself", x, t, Ops.DEEP);
        due.is("how long", x.tried(t, 3), 6);
        due.is("steps", x.tried(t, 0), 18);
        for (int i = 0; i < 6; i++) {
            due.is("trade", x.way(t, i, 0), 0);
            due.is("step", x.way(t, i, 1), 2);
        }
        due.is("no seventh", x.way(t, 6, 0), Ops.NONE);
    }

    private static void spent() {
        SeedExchange x = new SeedExchange();
        for (int i = 0; i < 20; i++) {
            Ops.steps(x, 1, Ops.MORE, 1, 0);
        }
        int t = Ops.playSteps(x, Ops.DO, 1, 0, Ops.PUT, 1, 0, Ops.SKIP, 0, 0);
        due.is("23 steps", x.tried(t, 0), 23);
        for (int i = 0; i < 17; i++) {
            Ops.steps(x, 0, Ops.SAY, 0, 0);
        }
        t = Ops.play(x, 0);
        due.is("40 steps", x.ticket(t, 0), Ops.DONE);
        due.is("40 steps", x.tried(t, 0), 40);
        Ops.steps(x, 0, Ops.PUT, 0, 0);
        t = Ops.play(x, 0);
        failed("41 steps", x, t, Ops.SPENT);
        due.is("40 were done", x.tried(t, 0), 40);
        due.is("the way is one long", x.tried(t, 3), 1);
        due.is("the step that would begin", x.way(t, 0, 1), 20);
        t = Ops.playSteps(x, Ops.DO, 1, 0, Ops.DO, 1, 0);
        failed("within a part", x, t, Ops.SPENT);
        due.is("its way", x.tried(t, 3), 2);
        due.is("its trade", x.way(t, 1, 0), 1);
        due.is("its step", x.way(t, 1, 1), 18);
        Ops.steps(x, 2, Ops.CATCH, 0, 0, Ops.OR, 0, 4);
        t = Ops.play(x, 2);
        failed("not caught", x, t, Ops.SPENT);
        due.is("its way", x.tried(t, 3), 3);
        x.clash(0, 1);
        t = Ops.playSteps(x, Ops.DO, 1, 0, Ops.SAY, 0, 0);
        said("each try has its own 40", x, t, 20);
        due.is("steps of the latest try", x.tried(t, 0), 22);
    }

    private static void ways() {
        SeedExchange x = new SeedExchange();
        Ops.steps(x, 3, Ops.PUT, 0, 0, Ops.FAIL, 8, 0);
        Ops.steps(x, 2, Ops.CATCH, 3, 0, Ops.PUT, 0, 0, Ops.OR, 3, 15, Ops.DO, 3, 0);
        Ops.steps(x, 1, Ops.DO, 15, 0, Ops.DO, 2, 0);
        int t = Ops.play(x, 1);
        int[][] way = {{1, 1}, {2, 3}, {3, 1}};
        due.is("how long", x.tried(t, 3), 3);
        for (int i = 0; i < way.length; i++) {
            due.is("trade " + i, x.way(t, i, 0), way[i][0]);
            due.is("step " + i, x.way(t, i, 1), way[i][1]);
        }
        due.is("behind the last", x.way(t, 3, 0), Ops.NONE);
        due.is("before the first", x.way(t, -1, 1), Ops.NONE);
        t = Ops.playSteps(x, Ops.PUT, 0, 0, Ops.WAIT, 0, 0);
        due.is("of a wait", x.tried(t, 3), 1);
        due.is("its step", x.way(t, 0, 1), 1);
        t = Ops.playSteps(x, Ops.CATCH, 3, 0);
        due.is("of one done", x.tried(t, 3), 0);
        due.is("none", x.way(t, 0, 0), Ops.NONE);
    }
}
