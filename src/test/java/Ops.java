/** The ops, the failures and the states of the document by name, for the tests. */
final class Ops {
    static final int PUT = 0, READ = 1, WRITE = 2, ADD = 3, MORE = 4, TIMES = 5, PART = 6, AT = 7, BELOW = 8, GRAMS = 9;
    static final int GIVE = 10, SWAP = 11, SAY = 12, SKIP = 13, FAIL = 14, WAIT = 15, DO = 16, CATCH = 17, OR = 18, AFTER = 19;
    static final int NULL = 1, INDEX = 2, CAST = 3, ZERO = 4, SUM = 5, LACK = 6, UNLIKE = 7, TOLD = 8, DEEP = 9, SPENT = 10;
    static final int READY = 0, DONE = 1, FAILED = 2, WAITING = 3, BROKEN = 4, GIVEN_UP = 5;
    static final int NONE = SeedExchange.NONE, BAD = SeedExchange.BAD, FULL = SeedExchange.FULL;
    static final int MOST_GRAMS = 1000000000;

    private Ops() {
    }

    /** Adds steps to a trade, three numbers each: op, a, b. */
    static void steps(SeedExchange x, int trade, int... rows) {
        for (int i = 0; i + 2 < rows.length; i += 3) {
            if (x.step(trade, rows[i], rows[i + 1], rows[i + 2]) < 1) {
                throw new IllegalStateException("the test's own step was refused: " + rows[i]);
            }
        }
    }

    /** A trade has these steps and no others. */
    static void retell(SeedExchange x, int trade, int... rows) {
        x.drop(trade);
        steps(x, trade, rows);
    }

    /** Trade 0 has these steps and no others, and is played: the ticket's number. */
    static int playSteps(SeedExchange x, int... rows) {
        retell(x, 0, rows);
        return play(x, 0);
    }

    /** Submits a ticket of a trade and plays one round: the ticket's number. */
    static int play(SeedExchange x, int trade) {
        int t = x.submit(trade);
        x.run(1);
        return t;
    }
}
