/** What the ops do, how a try fails, what is undone: seen by promises 16 to 21. */
public final class StepsTest {
    private static final Due due = new Due();
    private static final long MIN = Long.MIN_VALUE, MAX = Long.MAX_VALUE;

    public static void main(String[] args) {
        reckoning();
        edgesOfSums();
        lookingFails();
        weighingAndGiving();
        givingFails();
        swapping();
        answersKept();
        skipping();
        catching();
        orElse();
        undoneReads();
        deep();
        spent();
        acts();
        due.end();
    }

    /** The answer of a trade of these steps with cell 0 told v: SAY is added behind. */
    private static long reckoned(long v, int... rows) {
        SeedExchange x = new SeedExchange();
        x.number(0, v);
        Ops.steps(x, 0, rows);
        Ops.steps(x, 0, Ops.SAY, 0, 0);
        return x.answer(Ops.play(x, 0), 0);
    }

    /** The failure of a trade of these steps with cell 0 told v. */
    private static int failed(long v, int... rows) {
        SeedExchange x = new SeedExchange();
        x.number(0, v);
        Ops.steps(x, 0, rows);
        return x.ticket(Ops.play(x, 0), 3);
    }

    private static void reckoning() {
        due.is("X at first", reckoned(0), 0);
        due.is("put", reckoned(0, Ops.PUT, -7, 0), -7);
        due.is("read", reckoned(MIN, Ops.READ, 0, 0), MIN);
        due.is("add", reckoned(5, Ops.PUT, 3, 0, Ops.ADD, 0, 0), 8);
        due.is("more", reckoned(5, Ops.READ, 0, 0, Ops.MORE, -6, 0), -1);
        due.is("times", reckoned(5, Ops.READ, 0, 0, Ops.TIMES, -6, 0), -30);
        due.is("times 0", reckoned(MIN, Ops.READ, 0, 0, Ops.TIMES, 0, 0), 0);
        due.is("part is cut toward 0", reckoned(2, Ops.PUT, -7, 0, Ops.PART, 0, 0), -3);
        due.is("part is cut toward 0", reckoned(-2, Ops.PUT, 7, 0, Ops.PART, 0, 0), -3);
        due.is("at", reckoned(77, Ops.PUT, 0, 0, Ops.AT, 9, 9), 77);
        due.is("below", reckoned(5, Ops.PUT, 4, 0, Ops.BELOW, 0, 0), 1);
        due.is("not below", reckoned(5, Ops.PUT, 5, 0, Ops.BELOW, 0, 0), 0);
        due.is("own write is seen", reckoned(5, Ops.PUT, 8, 0, Ops.WRITE, 0, 0, Ops.ADD, 0, 0), 16);
    }

    private static void edgesOfSums() {
        due.is("add to MAX", reckoned(MAX - 1, Ops.PUT, 1, 0, Ops.ADD, 0, 0), MAX);
        due.is("add beyond", failed(MAX, Ops.PUT, 1, 0, Ops.ADD, 0, 0), Ops.SUM);
        due.is("add to MIN", reckoned(MIN + 1, Ops.PUT, -1, 0, Ops.ADD, 0, 0), MIN);
        due.is("add beyond", failed(MIN, Ops.PUT, -1, 0, Ops.ADD, 0, 0), Ops.SUM);
        due.is("MIN and MIN", failed(MIN, Ops.READ, 0, 0, Ops.ADD, 0, 0), Ops.SUM);
        due.is("more beyond", failed(MAX, Ops.READ, 0, 0, Ops.MORE, 1, 0), Ops.SUM);
        due.is("less beyond", failed(MIN, Ops.READ, 0, 0, Ops.MORE, -1, 0), Ops.SUM);
        due.is("times -1", reckoned(MAX, Ops.READ, 0, 0, Ops.TIMES, -1, 0), -MAX);
        due.is("MIN times -1", failed(MIN, Ops.READ, 0, 0, Ops.TIMES, -1, 0), Ops.SUM);
        due.is("times 2", reckoned(MIN / 2, Ops.READ, 0, 0, Ops.TIMES, 2, 0), MIN);
        due.is("times 2 beyond", failed(MIN / 2 - 1, Ops.READ, 0, 0, Ops.TIMES, 2, 0), Ops.SUM);
        due.is("times 2 beyond", failed(MAX / 2 + 1, Ops.READ, 0, 0, Ops.TIMES, 2, 0), Ops.SUM);
        due.is("times -2", reckoned(MAX / 2 + 1, Ops.READ, 0, 0, Ops.TIMES, -2, 0), MIN);
        due.is("times the least int", failed(1L << 33, Ops.READ, 0, 0, Ops.TIMES, Integer.MIN_VALUE, 0), Ops.SUM);
        due.is("times the least int", reckoned(1L << 32, Ops.READ, 0, 0, Ops.TIMES, Integer.MIN_VALUE, 0), MIN);
        due.is("by -1", reckoned(-1, Ops.PUT, 7, 0, Ops.PART, 0, 0), -7);
        due.is("by itself", reckoned(MIN, Ops.READ, 0, 0, Ops.PART, 0, 0), 1);
        due.is("by MIN", reckoned(MIN, Ops.PUT, 7, 0, Ops.PART, 0, 0), 0);
        due.is("by 0", failed(0, Ops.PUT, 7, 0, Ops.PART, 0, 0), Ops.ZERO);
        SeedExchange x = new SeedExchange();
        x.number(0, MIN);
        x.number(1, -1);
        Ops.steps(x, 0, Ops.READ, 0, 0, Ops.PART, 1, 0);
        due.is("MIN by -1", x.ticket(Ops.play(x, 0), 3), Ops.SUM);
    }

    private static void lookingFails() {
        int[] forNumbers = {Ops.READ, Ops.ADD, Ops.PART, Ops.BELOW};
        for (int op : forNumbers) {
            due.is("nothing for a number", failed(0, op, 1, 0), Ops.NULL);
            SeedExchange x = new SeedExchange();
            x.lot(1, 0, 0, 5);
            Ops.steps(x, 0, op, 1, 0);
            int t = Ops.play(x, 0);
            due.is("a lot for a number", x.ticket(t, 3), Ops.CAST);
            due.is("it was read all the same", x.read(t, 1), 1);
        }
        due.is("nothing for a lot", failed(0, Ops.GRAMS, 1, 0), Ops.NULL);
        due.is("a number for a lot", failed(0, Ops.GRAMS, 0, 0), Ops.CAST);
        due.is("at 40", failed(0, Ops.PUT, 40, 0, Ops.AT, 0, 0), Ops.INDEX);
        due.is("at -1", failed(0, Ops.PUT, -1, 0, Ops.AT, 0, 0), Ops.INDEX);
        due.is("at beyond an int", failed(1L << 32, Ops.READ, 0, 0, Ops.AT, 0, 0), Ops.INDEX);
        due.is("at 39", failed(0, Ops.PUT, 39, 0, Ops.AT, 0, 0), Ops.NULL);
        due.is("fail", failed(0, Ops.FAIL, 3, 0), Ops.TOLD);
    }

    private static SeedExchange withLots() {
        SeedExchange x = new SeedExchange();
        x.lot(0, 3, 1, 100);
        x.lot(1, 3, 2, Ops.MOST_GRAMS - 10);
        x.lot(2, 4, 2, 5);
        x.number(3, 10);
        return x;
    }

    private static void weighingAndGiving() {
        SeedExchange x = withLots();
        Ops.steps(x, 0, Ops.PUT, 10, 0, Ops.GIVE, 0, 1, Ops.GRAMS, 0, 0, Ops.SAY, 0, 0, Ops.GRAMS, 1, 0, Ops.SAY, 0, 0);
        int t = Ops.play(x, 0);
        due.is("gave", x.answer(t, 0), 90);
        due.is("filled up", x.answer(t, 1), Ops.MOST_GRAMS);
        due.is("growers stay", x.cell(0, 3) * 10 + x.cell(1, 3), 12);
        due.is("both are read", x.tried(t, 1), 2);
        due.is("both are written", x.tried(t, 2), 2);
        Ops.steps(x, 1, Ops.PUT, 90, 0, Ops.GIVE, 0, 0);
        t = Ops.play(x, 1);
        due.is("to itself", x.value(0), 90);
        due.is("to itself", x.tried(t, 2), 1);
        due.is("to itself is written", x.cell(0, 1), t);
        Ops.steps(x, 2, Ops.PUT, Ops.MOST_GRAMS, 0, Ops.GIVE, 1, 1);
        due.is("a full one to itself", x.ticket(Ops.play(x, 2), 0), Ops.DONE);
        Ops.steps(x, 3, Ops.GIVE, 0, 1);
        t = Ops.play(x, 3);
        due.is("0 grams", x.ticket(t, 0), Ops.DONE);
        due.is("0 grams are written", x.cell(1, 1), t);
    }

    private static void givingFails() {
        int[][] rows = {
            {11, 0, 1, Ops.LACK}, {101, 0, 0, Ops.LACK}, {-1, 0, 0, Ops.LACK}, {101, 0, 1, Ops.LACK},
            {-1, 0, 2, Ops.UNLIKE}, {1, 5, 3, Ops.NULL}, {1, 3, 5, Ops.CAST}, {1, 0, 5, Ops.NULL}, {1, 0, 3, Ops.CAST},
        };
        for (int[] row : rows) {
            SeedExchange x = withLots();
            Ops.steps(x, 0, Ops.PUT, row[0], 0, Ops.GIVE, row[1], row[2]);
            int t = Ops.play(x, 0);
            due.is("give " + row[0] + " " + row[1] + " " + row[2], x.ticket(t, 3), row[3]);
            due.is("nothing written", x.tried(t, 2), 0);
            boolean stoppedAtA = row[1] == 5 || row[1] == 3;
            due.is("b is looked at behind a", x.tried(t, 1), stoppedAtA || row[1] == row[2] ? 1 : 2);
        }
    }

    private static void swapping() {
        SeedExchange x = withLots();
        Ops.steps(x, 0, Ops.SWAP, 0, 9, Ops.SWAP, 3, 2);
        int t = Ops.play(x, 0);
        due.is("nothing came", x.holds(0), 0);
        due.is("nothing came", x.cell(0, 2), Ops.NONE);
        due.is("nothing came", x.value(0), 0);
        due.is("a lot went", x.cell(9, 2) * 10 + x.cell(9, 3), 31);
        due.is("a lot went", x.value(9), 100);
        due.is("number for a lot", x.value(2), 10);
        due.is("number for a lot", x.holds(2), 1);
        due.is("lot for a number", x.value(3), 5);
        due.is("read", x.tried(t, 1), 4);
        due.is("written", x.tried(t, 2), 4);
        Ops.steps(x, 1, Ops.SWAP, 20, 20);
        t = Ops.play(x, 1);
        due.is("with itself", x.cell(20, 0), 1);
        due.is("with itself", x.holds(20), 0);
        due.is("with itself", x.history(20, 0), t);
    }

    private static void answersKept() {
        SeedExchange x = new SeedExchange();
        for (int i = 0; i < 10; i++) {
            Ops.steps(x, 0, Ops.MORE, 1, 0, Ops.SAY, 0, 0);
        }
        int t = Ops.play(x, 0);
        for (int i = 0; i < 8; i++) {
            due.is("answer", x.answer(t, i), i + 1);
        }
        due.is("the 9th is not kept", x.answer(t, 8), 0);
        due.is("answer -1", x.answer(t, -1), 0);
        due.is("answer far", x.answer(t, Integer.MAX_VALUE), 0);
        due.is("of no ticket", x.answer(1, 0), 0);
        due.is("of no ticket", x.answer(-1, 0), 0);
        Ops.steps(x, 1, Ops.PUT, 6, 0, Ops.SAY, 0, 0, Ops.FAIL, 0, 0);
        due.is("of one failed", x.answer(Ops.play(x, 1), 0), 0);
        x.rule(2, 0, 0, 1);
        due.is("of one broken", x.answer(Ops.play(x, 0), 0), 0);
    }

    private static void skipping() {
        SeedExchange x = new SeedExchange();
        Ops.steps(x, 0, Ops.SKIP, 2, 0, Ops.FAIL, 0, 0, Ops.FAIL, 0, 0, Ops.PUT, 1, 0, Ops.SKIP, 1, 0, Ops.SAY, 0, 0);
        int t = Ops.play(x, 0);
        due.is("passed over", x.ticket(t, 0), Ops.DONE);
        due.is("not passed over", x.answer(t, 0), 1);
        due.is("what is passed over is no step", x.tried(t, 0), 4);
        Ops.steps(x, 1, Ops.SKIP, 24, 0, Ops.FAIL, 0, 0);
        Ops.steps(x, 2, Ops.DO, 1, 0, Ops.SKIP, 0, 0, Ops.SAY, 0, 0, Ops.FAIL, 5, 0);
        t = Ops.play(x, 2);
        due.is("not beyond its own trade", x.ticket(t, 4), 5);
        due.is("not beyond its own trade", x.tried(t, 0), 5);
    }

    private static void catching() {
        SeedExchange x = new SeedExchange();
        x.number(0, 1);
        // Trade 1 writes over what was written ahead of it, says, puts off, and fails.
        Ops.steps(x, 1, Ops.PUT, 5, 0, Ops.WRITE, 0, 0, Ops.WRITE, 1, 0, Ops.SAY, 0, 0, Ops.AFTER, 0, 1, Ops.READ, 9, 0);
        Ops.steps(x, 0, Ops.PUT, 2, 0, Ops.WRITE, 0, 0, Ops.SAY, 0, 0, Ops.AFTER, 0, 100);
        Ops.steps(x, 0, Ops.CATCH, 1, 0, Ops.SAY, 0, 0, Ops.READ, 0, 0, Ops.SAY, 0, 0);
        int t = Ops.play(x, 0);
        due.is("goes on", x.ticket(t, 0), Ops.DONE);
        due.is("ahead of it", x.answer(t, 0), 2);
        due.is("-1 less the failure", x.answer(t, 1), -1 - Ops.NULL);
        due.is("as ahead of it", x.answer(t, 2), 2);
        due.is("answers gone", x.answer(t, 3), 0);
        due.is("cell not written", x.cell(1, 0), 0);
        due.is("written ahead of it", x.tried(t, 2), 1);
        due.is("acts gone", x.count(6), 1);
        due.is("act ahead of it", x.noted(0), 102);
        due.is("steps stay", x.tried(t, 0), 14);
        due.is("what it read stays", x.read(t, 9), 1);
        due.is("never looked at unwritten", x.read(t, 0), 0);
        due.is("no way", x.way(t, 0, 0), Ops.NONE);
        Ops.steps(x, 3, Ops.WAIT, 0, 0);
        Ops.steps(x, 2, Ops.CATCH, 3, 0);
        t = Ops.play(x, 2);
        due.is("waiting is not caught", x.ticket(t, 0), Ops.WAITING);
        due.is("its way", x.way(t, 1, 0), 3);
        Ops.steps(x, 5, Ops.PUT, 3, 0, Ops.WRITE, 20, 0);
        Ops.steps(x, 4, Ops.CATCH, 5, 0, Ops.SAY, 0, 0);
        t = Ops.play(x, 4);
        due.is("what does not fail stays", x.value(20), 3);
        due.is("X of what does not fail", x.answer(t, 0), 3);
    }

    private static void orElse() {
        SeedExchange x = new SeedExchange();
        Ops.steps(x, 1, Ops.WRITE, 0, 0, Ops.SAY, 0, 0, Ops.AFTER, 0, 0, Ops.PUT, 8, 0, Ops.WAIT, 0, 0);
        Ops.steps(x, 2, Ops.WRITE, 0, 0, Ops.SAY, 0, 0, Ops.AFTER, 0, 0, Ops.PUT, 8, 0, Ops.FAIL, 7, 0);
        Ops.steps(x, 3, Ops.MORE, 1, 0, Ops.SAY, 0, 0);
        Ops.steps(x, 4, Ops.PUT, 3, 0, Ops.OR, 1, 3, Ops.OR, 2, 3, Ops.OR, 3, 1);
        int t = Ops.play(x, 4);
        due.is("done", x.ticket(t, 0), Ops.DONE);
        due.is("X is as ahead of it", x.answer(t, 0), 4);
        due.is("X is as ahead of it", x.answer(t, 1), 5);
        due.is("the first way goes", x.answer(t, 2), 6);
        due.is("undone", x.answer(t, 3), 0);
        due.is("undone", x.holds(0), 0);
        due.is("undone", x.count(6), 0);
        Ops.steps(x, 5, Ops.READ, 30, 0);
        Ops.steps(x, 6, Ops.OR, 5, 3);
        t = Ops.play(x, 6);
        due.is("not by another failure", x.ticket(t, 3), Ops.NULL);
        due.is("its way", x.way(t, 1, 0), 5);
        Ops.steps(x, 7, Ops.OR, 2, 1);
        t = Ops.play(x, 7);
        due.is("the other waits", x.ticket(t, 0), Ops.WAITING);
        due.is("the way of the other", x.way(t, 1, 0), 1);
        due.is("the way of the other", x.way(t, 1, 1), 4);
        Ops.steps(x, 8, Ops.OR, 1, 2);
        t = Ops.play(x, 8);
        due.is("the other fails", x.ticket(t, 4), 7);
        Ops.steps(x, 9, Ops.CATCH, 2, 0, Ops.READ, 30, 0);
        t = Ops.play(x, 9);
        due.is("a later failure", x.ticket(t, 3), Ops.NULL);
        due.is("the a of a FAIL that was caught is not told", x.ticket(t, 4), 0);
        due.is("a way behind a caught part", x.tried(t, 3), 1);
    }

    private static void undoneReads() {
        SeedExchange x = new SeedExchange();
        x.number(0, 1);
        x.number(1, 1);
        Ops.steps(x, 1, Ops.WRITE, 0, 0, Ops.READ, 0, 0, Ops.READ, 1, 0, Ops.FAIL, 0, 0);
        Ops.steps(x, 0, Ops.CATCH, 1, 0);
        int t = Ops.play(x, 0);
        due.is("written as it was looked at", x.read(t, 0), 0);
        due.is("what a part read stays", x.read(t, 1), 1);
        Ops.steps(x, 2, Ops.CATCH, 1, 0, Ops.READ, 0, 0);
        t = Ops.play(x, 2);
        due.is("a write undone does not count", x.read(t, 0), 1);
        Ops.steps(x, 3, Ops.READ, 0, 0, Ops.WRITE, 0, 0);
        due.is("read ahead of writing", x.read(Ops.play(x, 3), 0), 1);
        Ops.steps(x, 4, Ops.WRITE, 0, 0);
        due.is("only written", x.read(Ops.play(x, 4), 0), 0);
        Ops.steps(x, 5, Ops.DO, 4, 0, Ops.READ, 0, 0);
        due.is("written by a part that stays", x.read(Ops.play(x, 5), 0), 0);
    }

    private static void deep() {
        SeedExchange x = new SeedExchange();
        for (int trade = 0; trade < 7; trade++) {
            Ops.steps(x, trade, Ops.PUT, 0, 0, Ops.DO, trade + 1, 0);
        }
        int t = Ops.play(x, 2);
        due.is("six within one another", x.ticket(t, 0), Ops.DONE);
        t = Ops.play(x, 1);
        due.is("seven", x.ticket(t, 3), Ops.DEEP);
        due.is("the way ends where it was to be done", x.tried(t, 3), 6);
        for (int i = 0; i < 6; i++) {
            due.is("way trade", x.way(t, i, 0), i + 1);
            due.is("way step", x.way(t, i, 1), 1);
        }
        due.is("way -1", x.way(t, -1, 0), Ops.NONE);
        due.is("way 6", x.way(t, 6, 0), Ops.NONE);
        due.is("steps", x.tried(t, 0), 12);
        x.drop(6);
        Ops.steps(x, 6, Ops.CATCH, 7, 0, Ops.SAY, 0, 0);
        t = Ops.play(x, 1);
        due.is("caught by the sixth itself", x.answer(t, 0), -1 - Ops.DEEP);
        x.drop(6);
        Ops.steps(x, 6, Ops.OR, 7, 7);
        due.is("no other way for DEEP", x.ticket(Ops.play(x, 1), 3), Ops.DEEP);
    }

    private static void spent() {
        SeedExchange x = new SeedExchange();
        for (int i = 0; i < 19; i++) {
            Ops.steps(x, 1, Ops.PUT, 0, 0);
        }
        Ops.steps(x, 0, Ops.DO, 1, 0, Ops.DO, 1, 0);
        int t = Ops.play(x, 0);
        due.is("40 steps", x.ticket(t, 0), Ops.DONE);
        due.is("40 steps", x.tried(t, 0), 40);
        Ops.steps(x, 1, Ops.PUT, 0, 0);
        t = Ops.play(x, 0);
        due.is("the 41st", x.ticket(t, 3), Ops.SPENT);
        due.is("the 41st did not begin", x.tried(t, 0), 40);
        due.is("where it was to begin", x.way(t, 0, 1), 1);
        due.is("where it was to begin", x.way(t, 1, 1), 18);
        Ops.steps(x, 2, Ops.CATCH, 0, 0);
        t = Ops.play(x, 2);
        due.is("not caught", x.ticket(t, 3), Ops.SPENT);
        due.is("not caught", x.tried(t, 3), 3);
        Ops.steps(x, 3, Ops.OR, 0, 4);
        due.is("no other way", x.ticket(Ops.play(x, 3), 3), Ops.SPENT);
        Ops.steps(x, 5, Ops.FAIL, 0, 0);
        for (int i = 0; i < 21; i++) {
            Ops.steps(x, 6, Ops.CATCH, 5, 0);
        }
        t = Ops.play(x, 6);
        due.is("steps undone count", x.ticket(t, 3), Ops.SPENT);
        due.is("spent in the ticket's own trade", x.tried(t, 3), 1);
        due.is("spent in the ticket's own trade", x.way(t, 0, 1), 20);
    }

    private static void acts() {
        SeedExchange x = new SeedExchange();
        x.number(0, MAX);
        x.number(1, 4);
        x.number(2, 0);
        x.lot(3, 0, 0, 2);
        x.number(5, MIN);
        Ops.steps(x, 0, Ops.PUT, -9, 0, Ops.AFTER, 1, 1, Ops.AFTER, 1, 4, Ops.AFTER, 1, 3, Ops.AFTER, 1, 2);
        Ops.steps(x, 0, Ops.READ, 0, 0, Ops.AFTER, 0, 1, Ops.READ, 5, 0, Ops.AFTER, 1, 6, Ops.PUT, -1, 0, Ops.WRITE, 6, 0);
        int t = Ops.play(x, 0);
        long[] told = {-2, -1 - Ops.NULL, -1 - Ops.CAST, -1 - Ops.ZERO, MIN, -1 - Ops.SUM};
        int[] kinds = {1, 1, 1, 1, 0, 1};
        due.is("what stands stays", x.ticket(t, 0), Ops.DONE);
        due.is("it stands", x.value(6), -1);
        due.is("notes", x.count(6), told.length);
        for (int i = 0; i < told.length; i++) {
            due.is("noted " + i, x.noted(i), told[i]);
            due.is("kind " + i, x.note(i, 1), kinds[i]);
            due.is("ticket " + i, x.note(i, 0), t);
        }
        due.is("an act reads nothing for the try", x.read(t, 1), 0);
    }
}
