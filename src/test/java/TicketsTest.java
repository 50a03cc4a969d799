/** Promises 14 to 27: tickets, rounds, turns, effects, notes, counts, the digest. */
public final class TicketsTest {
    private static final Due due = new Due();

    public static void main(String[] args) {
        submitted();
        refusals();
        windows();
        rounds();
        changedReads();
        blindWrites();
        clashes();
        wakings();
        wokenByTheLeast();
        roundCutShort();
        wokenInItsOwnRound();
        fiveTurns();
        givenUpByClashesLater();
        rulesOnLaterCells();
        notesKept();
        digests();
        due.end();
    }

    private static void submitted() {
        SeedExchange x = new SeedExchange();
        for (int i = 0; i < 20; i++) {
            due.is("submit", x.submit(i % 16), i);
        }
        due.is("the 21st", x.submit(0), Ops.FULL);
        due.is("BAD is ahead of FULL", x.submit(16), Ops.BAD);
        due.is("BAD is ahead of FULL", x.submit(-1), Ops.BAD);
        due.is("tickets", x.count(0), 20);
        due.is("ready", x.count(1), 20);
        due.is("state", x.ticket(19, 0), Ops.READY);
        due.is("trade", x.ticket(19, 1), 3);
        due.is("turns", x.ticket(19, 2), 0);
        due.is("failure", x.ticket(19, 3), 0);
        due.is("told", x.ticket(19, 4), 0);
        due.is("rule", x.ticket(19, 5), Ops.NONE);
        due.is("tries", x.ticket(19, 6), 0);
        due.is("tried", x.tried(19, 0), Ops.NONE);
        due.is("tried", x.tried(19, 3), Ops.NONE);
        due.is("way", x.way(19, 0, 0), Ops.NONE);
        due.is("read", x.read(19, 0), 0);
        due.is("woken", x.woken(19, 0), Ops.NONE);
        due.is("woken", x.woken(19, 1), Ops.NONE);
        due.is("run", x.run(100), 20);
        due.is("rounds till none is ready", x.count(4), 20);
        due.is("turns", x.ticket(19, 2), 1);
        due.is("order", x.order(0), 0);
        due.is("order", x.order(19), 19);
        due.is("effects", x.count(3), 20);
    }

    private static void refusals() {
        SeedExchange x = new SeedExchange();
        x.submit(0);
        int[] none = {-1, 1, Integer.MIN_VALUE, Integer.MAX_VALUE};
        for (int t : none) {
            due.is("ticket", x.ticket(t, 0), Ops.BAD);
            due.is("answer", x.answer(t, 0), 0);
            due.is("tried", x.tried(t, 0), Ops.BAD);
            due.is("way", x.way(t, 0, 0), Ops.BAD);
            due.is("read", x.read(t, 0), Ops.BAD);
            due.is("woken", x.woken(t, 0), Ops.BAD);
            due.is("order", x.order(t), Ops.NONE);
            due.is("note", x.note(t, 0), Ops.NONE);
            due.is("noted", x.noted(t), 0);
        }
        int[] whats = {-1, 7, Integer.MAX_VALUE};
        for (int what : whats) {
            due.is("ticket what", x.ticket(0, what), Ops.BAD);
        }
        due.is("tried what", x.tried(0, 4), Ops.BAD);
        due.is("tried what", x.tried(0, -1), Ops.BAD);
        due.is("way what", x.way(0, 0, 2), Ops.BAD);
        due.is("way what", x.way(0, 0, -1), Ops.BAD);
        due.is("read cell", x.read(0, 40), Ops.BAD);
        due.is("read cell", x.read(0, -1), Ops.BAD);
        due.is("woken what", x.woken(0, 2), Ops.BAD);
        due.is("woken what", x.woken(0, -1), Ops.BAD);
        due.is("note what", x.note(0, 2), Ops.BAD);
        due.is("note what", x.note(0, -1), Ops.BAD);
        due.is("count what", x.count(8), Ops.BAD);
        due.is("count what", x.count(-1), Ops.BAD);
        due.is("run 0", x.run(0), Ops.BAD);
        due.is("run 101", x.run(101), Ops.BAD);
        due.is("run -1", x.run(-1), Ops.BAD);
        due.is("no round was", x.count(4), 0);
    }

    private static void windows() {
        SeedExchange x = new SeedExchange();
        due.is("window", x.window(4), 1);
        due.is("window 5", x.window(5), Ops.BAD);
        due.is("window 0", x.window(0), Ops.BAD);
        due.is("window -1", x.window(-1), Ops.BAD);
        due.is("window", x.window(2), 4);
        for (int i = 0; i < 5; i++) {
            x.submit(0);
        }
        due.is("two", x.run(1), 2);
        due.is("ready", x.count(1), 3);
        x.window(4);
        due.is("as there are", x.run(1), 3);
    }

    private static void rounds() {
        SeedExchange x = new SeedExchange();
        for (int i = 0; i < 3; i++) {
            x.submit(0);
        }
        due.is("two rounds", x.run(2), 2);
        due.is("rounds", x.count(4), 2);
        due.is("the third is ready", x.ticket(2, 0), Ops.READY);
        due.is("till none is ready", x.run(100), 1);
        due.is("rounds", x.count(4), 3);
        due.is("none", x.run(1), 0);
        due.is("rounds", x.count(4), 3);
    }

    private static void changedReads() {
        SeedExchange x = new SeedExchange();
        x.number(0, 1);
        x.window(4);
        Ops.steps(x, 0, Ops.READ, 0, 0, Ops.WRITE, 0, 0, Ops.SAY, 0, 0);
        Ops.steps(x, 1, Ops.READ, 0, 0, Ops.FAIL, 6, 0);
        Ops.steps(x, 2, Ops.READ, 1, 0);
        x.submit(0);
        x.submit(0);
        x.submit(1);
        x.submit(2);
        due.is("run", x.run(1), 4);
        due.is("the first is tried once", x.ticket(0, 6), 1);
        due.is("the same written is another version", x.ticket(1, 6), 2);
        due.is("one that failed is tried again", x.ticket(2, 6), 2);
        due.is("it failed", x.ticket(2, 0), Ops.FAILED);
        due.is("told", x.ticket(2, 4), 6);
        due.is("unchanged reads", x.ticket(3, 6), 1);
        due.is("null", x.ticket(3, 3), Ops.NULL);
        due.is("no a of a FAIL", x.ticket(3, 4), 0);
        due.is("tries", x.count(5), 6);
        due.is("version", x.cell(0, 0), 3);
        due.is("one round", x.count(4), 1);
    }

    private static void blindWrites() {
        SeedExchange x = new SeedExchange();
        x.window(2);
        x.number(0, 1);
        Ops.steps(x, 0, Ops.PUT, 5, 0, Ops.WRITE, 0, 0);
        Ops.steps(x, 1, Ops.PUT, 6, 0, Ops.WRITE, 0, 0, Ops.READ, 0, 0, Ops.SAY, 0, 0);
        x.submit(0);
        x.submit(1);
        x.run(1);
        due.is("never read it", x.ticket(1, 6), 1);
        due.is("saw its own", x.answer(1, 0), 6);
        due.is("the later stands", x.value(0), 6);
        due.is("history", x.history(0, 1), 1);
    }

    private static void clashes() {
        SeedExchange x = new SeedExchange();
        Ops.steps(x, 0, Ops.READ, 0, 0, Ops.MORE, 1, 0, Ops.WRITE, 0, 0);
        x.number(0, 0);
        x.clash(0, 1);
        due.is("one clash", x.ticket(Ops.play(x, 0), 6), 2);
        x.clash(0, 2);
        int t = Ops.play(x, 0);
        due.is("two clashes", x.ticket(t, 6), 3);
        due.is("done", x.ticket(t, 0), Ops.DONE);
        due.is("clashes stay", x.clash(0, 10), 2);
        t = Ops.play(x, 0);
        due.is("ten clashes", x.ticket(t, 6), 3);
        due.is("given up", x.ticket(t, 0), Ops.GIVEN_UP);
        due.is("turns", x.ticket(t, 2), 1);
        due.is("nothing counted", x.tried(t, 0), Ops.NONE);
        due.is("nothing counted", x.read(t, 0), 0);
        due.is("no effect", x.value(0), 2);
        x.clash(0, 1);
        x.window(2);
        x.submit(0);
        x.submit(0);
        x.run(1);
        due.is("changed, and a clash", x.ticket(4, 6), 3);
        due.is("tries", x.count(5), 13);
        due.is("value", x.value(0), 4);
    }

    private static void wakings() {
        SeedExchange x = new SeedExchange();
        x.number(0, 0);
        // Waits while cell 0 is 0, and fails behind that.
        Ops.steps(x, 0, Ops.READ, 0, 0, Ops.SKIP, 2, 0, Ops.SAY, 0, 0, Ops.FAIL, 0, 0, Ops.WRITE, 2, 0, Ops.WAIT, 0, 0);
        Ops.play(x, 0);
        due.is("waiting", x.ticket(0, 0), Ops.WAITING);
        due.is("waiting ones", x.count(2), 1);
        due.is("wrote nothing", x.tried(0, 2), 0);
        due.is("its way", x.way(0, 0, 1), 5);
        due.is("steps", x.tried(0, 0), 4);
        due.is("no failure", x.ticket(0, 3), 0);
        due.is("none ready", x.run(5), 0);
        x.number(2, 1);
        due.is("what it wrote does not wake", x.ticket(0, 0), Ops.WAITING);
        x.number(0, 0);
        due.is("the same told anew wakes", x.ticket(0, 0), Ops.READY);
        due.is("of one woken that before", x.tried(0, 3), 1);
        due.is("of one woken that before", x.read(0, 0), 1);
        due.is("woken by the cell", x.woken(0, 0), 0);
        due.is("told from outside", x.woken(0, 1), Ops.NONE);
        due.is("waits again", x.run(5), 1);
        x.empty(0);
        due.is("empty wakes", x.ticket(0, 0), Ops.READY);
        x.number(0, 0);
        x.run(1);
        x.lot(0, 0, 0, 0);
        due.is("a lot wakes", x.ticket(0, 0), Ops.READY);
        x.number(0, 7);
        x.run(1);
        due.is("failed at last", x.ticket(0, 0), Ops.FAILED);
        due.is("turns", x.ticket(0, 2), 4);
    }

    private static void wokenByTheLeast() {
        SeedExchange x = new SeedExchange();
        for (int c = 0; c < 6; c++) {
            x.number(c, 0);
        }
        Ops.steps(x, 0, Ops.READ, 5, 0, Ops.READ, 4, 0, Ops.READ, 3, 0, Ops.WAIT, 0, 0);
        Ops.steps(x, 1, Ops.WRITE, 5, 0, Ops.WRITE, 4, 0, Ops.WRITE, 1, 0);
        Ops.steps(x, 2, Ops.WRITE, 5, 0, Ops.FAIL, 0, 0);
        Ops.play(x, 0);
        Ops.play(x, 2);
        due.is("a failed one wakes none", x.ticket(0, 0), Ops.WAITING);
        int t = Ops.play(x, 1);
        due.is("woken", x.ticket(0, 0), Ops.READY);
        due.is("by the least such cell", x.woken(0, 0), 4);
        due.is("by the ticket", x.woken(0, 1), t);
        x.run(1);
        x.number(3, 0);
        due.is("by the last", x.woken(0, 0), 3);
        due.is("by none", x.woken(0, 1), Ops.NONE);
    }

    private static void roundCutShort() {
        SeedExchange x = new SeedExchange();
        x.number(0, 0);
        // Waits while cell 0 is 0, else adds to it.
        Ops.steps(x, 1, Ops.WAIT, 0, 0);
        Ops.steps(x, 0, Ops.READ, 0, 0, Ops.BELOW, 1, 0, Ops.SKIP, 1, 0, Ops.DO, 1, 0, Ops.READ, 0, 0, Ops.MORE, 10, 0, Ops.WRITE, 0, 0);
        x.number(1, 1);
        Ops.steps(x, 2, Ops.PUT, 1, 0, Ops.WRITE, 0, 0);
        Ops.steps(x, 3, Ops.READ, 0, 0, Ops.SAY, 0, 0);
        Ops.play(x, 0);
        due.is("waits", x.ticket(0, 0), Ops.WAITING);
        x.window(3);
        x.submit(2);
        x.submit(3);
        x.submit(3);
        due.is("the round ends ahead of 2", x.run(1), 1);
        due.is("done", x.ticket(1, 0), Ops.DONE);
        due.is("woken", x.ticket(0, 0), Ops.READY);
        due.is("stays ready", x.ticket(2, 0), Ops.READY);
        due.is("no turn", x.ticket(2, 2), 0);
        due.is("its try is one of all", x.ticket(2, 6), 1);
        due.is("but does not count", x.tried(2, 0), Ops.NONE);
        due.is("next round", x.run(1), 3);
        due.is("order", x.order(1), 0);
        due.is("saw what stood", x.answer(2, 0), 11);
        due.is("tried again", x.ticket(3, 6), 3);
        due.is("value", x.value(0), 11);
    }

    private static void wokenInItsOwnRound() {
        SeedExchange x = new SeedExchange();
        x.number(0, 0);
        x.window(3);
        Ops.steps(x, 4, Ops.READ, 0, 0, Ops.WAIT, 0, 0);
        Ops.steps(x, 1, Ops.PUT, 1, 0, Ops.WRITE, 0, 0);
        x.submit(4);
        x.submit(1);
        x.submit(5);
        due.is("0 waits, 1 wakes it, the round ends ahead of 2", x.run(1), 2);
        due.is("woken", x.ticket(0, 0), Ops.READY);
        due.is("by 1", x.woken(0, 1), 1);
        due.is("2 stays ready", x.ticket(2, 0), Ops.READY);
        due.is("the rest", x.run(9), 2);
        due.is("0 waits again", x.ticket(0, 0), Ops.WAITING);
        x.submit(4);
        x.submit(1);
        x.submit(5);
        x.number(9, 9);
        due.is("a greater one woken cuts nothing", x.run(1), 2);
        due.is("both are woken", x.count(1), 3);
    }

    private static void fiveTurns() {
        SeedExchange x = new SeedExchange();
        Ops.steps(x, 0, Ops.DO, 1, 0);
        Ops.steps(x, 1, Ops.PUT, 0, 0, Ops.READ, 0, 0, Ops.WAIT, 0, 0);
        x.number(0, 0);
        Ops.play(x, 0);
        for (int i = 0; i < 3; i++) {
            x.number(0, i);
            x.run(1);
        }
        due.is("four turns", x.ticket(0, 2), 4);
        due.is("waits", x.ticket(0, 0), Ops.WAITING);
        x.number(0, 0);
        due.is("the fifth", x.run(1), 1);
        due.is("given up", x.ticket(0, 0), Ops.GIVEN_UP);
        due.is("its try counted", x.tried(0, 0), 4);
        due.is("its way", x.tried(0, 3), 2);
        due.is("its way", x.way(0, 1, 1), 2);
        due.is("it read", x.read(0, 0), 1);
        x.number(0, 0);
        due.is("not woken any more", x.ticket(0, 0), Ops.GIVEN_UP);
        due.is("none ready", x.run(1), 0);
        SeedExchange y = new SeedExchange();
        Ops.steps(y, 0, Ops.GRAMS, 0, 0);
        Ops.steps(y, 1, Ops.CATCH, 0, 0, Ops.MORE, 4, 0, Ops.SKIP, 1, 0, Ops.WAIT, 0, 0);
        y.number(0, 0);
        Ops.play(y, 1);
        due.is("a cast is no wait", y.ticket(0, 0), Ops.DONE);
    }

    private static void givenUpByClashesLater() {
        SeedExchange x = new SeedExchange();
        x.number(0, 0);
        Ops.steps(x, 0, Ops.READ, 0, 0, Ops.WAIT, 0, 0);
        Ops.play(x, 0);
        due.is("counted", x.tried(0, 3), 1);
        x.clash(0, 3);
        x.number(0, 1);
        x.run(1);
        due.is("given up", x.ticket(0, 0), Ops.GIVEN_UP);
        due.is("tries", x.ticket(0, 6), 4);
        for (int what = 0; what <= 3; what++) {
            due.is("nothing counts", x.tried(0, what), Ops.NONE);
        }
        due.is("no way", x.way(0, 0, 0), Ops.NONE);
        due.is("no read", x.read(0, 0), 0);
        due.is("woken once", x.woken(0, 0), 0);
    }

    private static void rulesOnLaterCells() {
        SeedExchange x = new SeedExchange();
        x.window(2);
        x.rule(1, 0, 1, 0);
        Ops.steps(x, 0, Ops.PUT, 5, 0, Ops.WRITE, 0, 0);
        Ops.steps(x, 1, Ops.PUT, 4, 0, Ops.WRITE, 1, 0);
        x.submit(0);
        x.submit(1);
        x.run(1);
        due.is("the first is done", x.ticket(0, 0), Ops.DONE);
        due.is("the other read nothing", x.ticket(1, 6), 1);
        due.is("but would break the rule now", x.ticket(1, 0), Ops.BROKEN);
        due.is("by it", x.ticket(1, 5), 0);
        due.is("changed nothing", x.holds(1), 0);
        due.is("no effect", x.count(3), 1);
        due.is("not in the order", x.order(1), Ops.NONE);
        due.is("a broken one has no failure", x.ticket(1, 3), 0);
    }

    private static void notesKept() {
        SeedExchange x = new SeedExchange();
        for (int i = 0; i < 21; i++) {
            Ops.steps(x, 0, Ops.AFTER, 0, i);
        }
        Ops.steps(x, 1, Ops.AFTER, 0, 0, Ops.FAIL, 0, 0);
        Ops.play(x, 1);
        due.is("a failed one does no act", x.count(6), 0);
        Ops.play(x, 0);
        due.is("none such yet", x.note(21, 0), Ops.NONE);
        Ops.play(x, 0);
        due.is("notes that came", x.count(6), 42);
        due.is("in order", x.noted(20), 20);
        due.is("in order", x.note(20, 0), 1);
        due.is("the 40th", x.noted(39), 18);
        due.is("the 40th", x.note(39, 0), 2);
        due.is("the 41st is not kept", x.note(40, 0), Ops.NONE);
        due.is("the 41st is not kept", x.noted(40), 0);
        due.is("BAD is ahead of NONE", x.note(40, 2), Ops.BAD);
    }

    private static long digestOf(SeedExchange x) {
        long h = 17;
        for (int c = 0; c < 40; c++) {
            long[] row = {x.holds(c), x.value(c), x.cell(c, 0), x.cell(c, 1), x.cell(c, 2), x.cell(c, 3)};
            for (long v : row) {
                h = 31 * h + v;
            }
        }
        for (int t = 0; t < x.count(0); t++) {
            for (int what = 0; what <= 5; what++) {
                h = 31 * h + x.ticket(t, what);
            }
            for (int i = 0; i <= 7; i++) {
                h = 31 * h + x.answer(t, i);
            }
        }
        for (int i = 0; i < x.count(3); i++) {
            h = 31 * h + x.order(i);
        }
        return h;
    }

    private static SeedExchange forDigest() {
        SeedExchange x = new SeedExchange();
        x.lot(39, 7, 7, Ops.MOST_GRAMS);
        for (int i = 0; i < 9; i++) {
            Ops.steps(x, 0, Ops.MORE, 3, 0, Ops.SAY, 0, 0);
        }
        Ops.steps(x, 1, Ops.FAIL, -4, 0);
        x.clash(2, 9);
        x.submit(0);
        x.submit(1);
        x.submit(2);
        x.submit(0);
        x.run(4);
        return x;
    }

    /** What it is made of is asked of another object, for an object is used for at most 512 calls. */
    private static void digests() {
        SeedExchange x = new SeedExchange();
        long before = x.digest();
        due.is("new digest", before, digestOf(new SeedExchange()));
        x.lot(39, 7, 7, Ops.MOST_GRAMS);
        due.is("another digest", x.digest() == before ? 1 : 0, 0);
        SeedExchange y = forDigest();
        due.is("order", y.order(1), 3);
        due.is("digest", y.digest(), digestOf(forDigest()));
        due.is("a digest changes nothing", digestOf(y), digestOf(forDigest()));
    }
}
