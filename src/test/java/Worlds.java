/** Objects in unlike states, each made by at most some eighty calls, so that there is room for questions. */
final class Worlds {
    static final int NEW = 0, BUSY = 1, FULL = 2, MANY = 3;
    static final String[] NAMES = {"new", "busy", "full"};

    private Worlds() {
    }

    static SeedExchange make(int which) {
        SeedExchange x = new SeedExchange();
        if (which == BUSY) {
            fillBusy(x);
        } else if (which == FULL) {
            fillUp(x);
        }
        return x;
    }

    /** Tickets in all six states, one of them woken; cells of all sorts; clashes, rules, notes. */
    private static void fillBusy(SeedExchange x) {
        x.number(0, 0);
        x.number(1, 7);
        x.lot(2, 3, 1, 100);
        x.lot(3, 3, 2, 50);
        x.number(39, -5);
        x.empty(4);
        Ops.steps(x, 0, Ops.PUT, 5, 0, Ops.WRITE, 5, 0, Ops.SAY, 0, 0, Ops.AFTER, 0, 3);
        Ops.steps(x, 1, Ops.READ, 1, 0, Ops.FAIL, 9, 0);
        Ops.steps(x, 2, Ops.READ, 0, 0, Ops.WRITE, 6, 0, Ops.WAIT, 0, 0);
        Ops.steps(x, 3, Ops.READ, 1, 0, Ops.PUT, -1, 0, Ops.WRITE, 7, 0);
        Ops.steps(x, 4, Ops.READ, 1, 0, Ops.WRITE, 8, 0);
        Ops.steps(x, 5, Ops.DO, 1, 0);
        Ops.steps(x, 6, Ops.READ, 1, 0, Ops.WAIT, 0, 0);
        Ops.steps(x, 15, Ops.PUT, 10, 0, Ops.GIVE, 2, 3, Ops.AFTER, 1, 39);
        x.rule(0, 7, 0, 0);
        x.rule(2, 3, 0, 100);
        x.clash(4, 3);
        x.clash(7, 1);
        int[] trades = {0, 1, 2, 3, 4, 5, 15, 6};
        for (int trade : trades) {
            x.submit(trade);
        }
        x.window(2);
        x.run(100);
        x.number(1, 8);
        x.submit(0);
        x.submit(2);
    }

    /** As many tickets, rules, steps of trade 0, notes and tickets in a history as are kept, or more. */
    private static void fillUp(SeedExchange x) {
        x.number(0, 0);
        x.lot(1, 0, 0, Ops.MOST_GRAMS);
        Ops.steps(x, 0, Ops.READ, 0, 0, Ops.MORE, 1, 0, Ops.WRITE, 0, 0);
        for (int i = 3; i < 24; i++) {
            Ops.steps(x, 0, i % 2 == 0 ? Ops.SAY : Ops.AFTER, i % 2 == 0 ? 0 : 1, 0);
        }
        for (int i = 0; i < 10; i++) {
            x.rule(i % 4, i % 4 == 1 ? 39 : 0, 0, 0);
        }
        for (int i = 0; i < 20; i++) {
            x.submit(i < 18 ? 0 : 1);
        }
        x.run(14);
        x.window(4);
        x.clash(4, 2);
        Ops.steps(x, 1, Ops.READ, 0, 0, Ops.WAIT, 0, 0);
    }
}
