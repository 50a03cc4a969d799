import java.util.Random;

/** Runs of random calls, each answered by SeedExchange and by PlainExchange alike. */
public final class RandomRunsTest {
    private static final int RUNS = 3000, CALLS = 220, CALL_KINDS = 27, MOST_CALLS = 512;
    private static final int[] FAR = {Integer.MIN_VALUE, Integer.MAX_VALUE, -2, -1, 8, 16, 20, 24, 25, 40, 41};
    private static final long[] FAR_LONGS = {Long.MIN_VALUE, Long.MAX_VALUE, Long.MIN_VALUE + 1, 1L << 32, -1, 1000000000L};
    private static final Due due = new Due();
    private static final int[] failures = new int[11];
    private static final int[] states = new int[6];
    private static int cutShort;

    private final Random random;
    private final SeedExchange x = new SeedExchange();
    private final PlainExchange plain = new PlainExchange();
    private final int cells;
    private final int trades;
    private final String name;
    private int calls;

    private RandomRunsTest(int seed) {
        random = new Random(seed);
        cells = 2 + random.nextInt(seed % 10 == 0 ? 38 : 6);
        trades = 1 + random.nextInt(seed % 10 == 0 ? 16 : 7);
        name = "run " + seed + ": ";
    }

    public static void main(String[] args) {
        for (int seed = 0; seed < RUNS; seed++) {
            RandomRunsTest run = new RandomRunsTest(seed);
            run.furnish();
            for (int i = 0; i < CALLS; i++) {
                run.call();
            }
            run.compareAll();
        }
        // Runs that never come to some corner would test less than they seem to.
        for (int i = 1; i < failures.length; i++) {
            due.is("failure " + i + " came", failures[i] > 20 ? 1 : 0, 1);
        }
        for (int i = 0; i < states.length; i++) {
            due.is("state " + i + " came", states[i] > 20 ? 1 : 0, 1);
        }
        due.is("tries were forgotten", cutShort > 20 ? 1 : 0, 1);
        due.end();
    }

    /** One call of each, answered alike. */
    private void same(String call, long got, long want) {
        calls++;
        due.is(name + call, got, want);
    }

    private int wild(int within) {
        return random.nextInt(40) == 0 ? FAR[random.nextInt(FAR.length)] : random.nextInt(within);
    }

    private long number() {
        int which = random.nextInt(12);
        return which == 0 ? FAR_LONGS[random.nextInt(FAR_LONGS.length)] : random.nextInt(9) - 3;
    }

    private int grams() {
        int which = random.nextInt(6);
        return which == 0 ? 1000000000 - random.nextInt(4) : random.nextInt(30);
    }

    private void furnish() {
        int lots = random.nextInt(4);
        for (int c = 0; c < cells; c++) {
            if (random.nextInt(5) < lots) {
                tellLot(c);
            } else if (random.nextInt(6) > 0) {
                tellNumber(c);
            }
        }
        for (int i = 0; i < trades * 5; i++) {
            addStep();
        }
        if (random.nextInt(3) == 0) {
            addRule();
        }
        int w = 1 + random.nextInt(4);
        same("window", x.window(w), plain.window(w));
    }

    private void tellNumber(int c) {
        long v = number();
        same("number", x.number(c, v), plain.number(c, v));
    }

    private void tellLot(int c) {
        int kind = wild(2);
        int grower = wild(8);
        int grams = grams();
        same("lot", x.lot(c, kind, grower, grams), plain.lot(c, kind, grower, grams));
    }

    private void addStep() {
        int trade = wild(trades);
        int op = wild(20);
        int a = wild(cells);
        int b = wild(cells);
        if (op == 0 || op == 4 || op == 5 || op == 14) {
            a = random.nextInt(8) == 0 ? FAR[random.nextInt(FAR.length)] : random.nextInt(9) - 3;
        } else if (op == 13) {
            a = wild(3);
        } else if (op >= 16 && op <= 18) {
            a = wild(trades);
            b = wild(trades);
        } else if (op == 19) {
            a = wild(2);
        } else if (op == 15 && random.nextInt(2) == 0) {
            op = 12;
        }
        same("step", x.step(trade, op, a, b), plain.step(trade, op, a, b));
    }

    private void addRule() {
        int kind = wild(4);
        int a = kind < 2 ? wild(cells) : wild(2);
        int b = wild(cells);
        long v = number() - 2;
        same("rule", x.rule(kind, a, b, v), plain.rule(kind, a, b, v));
    }

    private void call() {
        int which = random.nextInt(CALL_KINDS + 8);
        if (which < 10) {
            callOfCells(which);
        } else if (which < 20) {
            callThatWorks(which);
        } else {
            callOfTickets(which);
        }
    }

    private void callOfCells(int which) {
        int c = wild(cells);
        int i = wild(4);
        switch (which) {
            case 0 -> tellNumber(c);
            case 1 -> tellLot(c);
            case 2 -> emptyNowAndThen(c);
            case 3 -> same("holds", x.holds(c), plain.holds(c));
            case 4 -> same("value", x.value(c), plain.value(c));
            case 5 -> same("cell", x.cell(c, i), plain.cell(c, i));
            case 6 -> same("history", x.history(c, i), plain.history(c, i));
            case 7 -> same("stock", x.stock(i % 3, c), plain.stock(i % 3, c));
            case 8 -> addStep();
            default -> tellNumber(c);
        }
    }

    private void callThatWorks(int which) {
        int trade = wild(trades);
        int few = wild(5);
        switch (which) {
            case 10 -> dropNowAndThen(trade);
            case 11 -> clashNowAndThen(trade, few);
            case 12 -> ruleNowAndThen();
            case 13, 14 -> same("submit", x.submit(trade), plain.submit(trade));
            case 15 -> same("window", x.window(few), plain.window(few));
            default -> play(few);
        }
    }

    private void emptyNowAndThen(int c) {
        if (random.nextInt(3) == 0) {
            same("empty", x.empty(c), plain.empty(c));
        }
    }

    private void dropNowAndThen(int trade) {
        if (random.nextInt(8) == 0) {
            same("drop", x.drop(trade), plain.drop(trade));
        }
    }

    private void clashNowAndThen(int trade, int many) {
        if (random.nextInt(4) == 0) {
            same("clash", x.clash(trade, many), plain.clash(trade, many));
        }
    }

    private void ruleNowAndThen() {
        if (random.nextInt(6) == 0) {
            addRule();
        }
    }

    private void play(int few) {
        same("run", x.run(few), plain.run(few));
        same("tries", x.count(5), plain.count(5));
    }

    private void callOfTickets(int which) {
        int t = wild(20);
        int i = wild(7);
        int what = wild(3);
        switch (which) {
            case 20 -> same("ticket", x.ticket(t, i), plain.ticket(t, i));
            case 21 -> same("answer", x.answer(t, i), plain.answer(t, i));
            case 22 -> same("tried", x.tried(t, what), plain.tried(t, what));
            case 23 -> same("way", x.way(t, i, what), plain.way(t, i, what));
            case 24 -> same("read", x.read(t, i), plain.read(t, i));
            case 25 -> same("woken", x.woken(t, what), plain.woken(t, what));
            case 26 -> same("order", x.order(t), plain.order(t));
            case 27 -> same("note", x.note(t, what), plain.note(t, what));
            case 28 -> same("noted", x.noted(t), plain.noted(t));
            case 29 -> same("count", x.count(i), plain.count(i));
            default -> play(1 + random.nextInt(3));
        }
    }

    /** The digest tells most at once; of the rest as much is asked as an object may be. */
    private void compareAll() {
        same("digest", x.digest(), plain.digest());
        for (int what = 0; what <= 7; what++) {
            same("count " + what, x.count(what), plain.count(what));
        }
        while (calls < MOST_CALLS) {
            compareOne();
        }
        takeCount();
    }

    private void compareOne() {
        int c = random.nextInt(8) == 0 ? random.nextInt(40) : random.nextInt(cells);
        int t = random.nextInt(Math.max(1, plain.count(0)));
        int i = random.nextInt(42);
        int what = random.nextInt(2);
        switch (random.nextInt(9)) {
            case 0 -> same("history", x.history(c, i % 14), plain.history(c, i % 14));
            case 1 -> same("stock", x.stock(what, i % 8), plain.stock(what, i % 8));
            case 2 -> same("tries", x.ticket(t, 6), plain.ticket(t, 6));
            case 3 -> same("tried", x.tried(t, i % 4), plain.tried(t, i % 4));
            case 4 -> same("way", x.way(t, i % 7, what), plain.way(t, i % 7, what));
            case 5 -> same("read", x.read(t, c), plain.read(t, c));
            case 6 -> same("woken", x.woken(t, what), plain.woken(t, what));
            case 7 -> same("note", x.note(i, what), plain.note(i, what));
            default -> same("noted", x.noted(i), plain.noted(i));
        }
    }

    private void takeCount() {
        int turns = 0;
        for (int t = 0; t < plain.count(0); t++) {
            failures[plain.ticket(t, 3)]++;
            states[plain.ticket(t, 0)]++;
            turns += plain.ticket(t, 2);
        }
        cutShort += plain.count(5) > turns * 2 ? 1 : 0;
    }
}
