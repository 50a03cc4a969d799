/** The sentences on cells that name an edge, a test each (Terms 1; promises 1 to 9). */
public final class EdgesOfCellsTest {
    private static final long MIN = Long.MIN_VALUE, MAX = Long.MAX_VALUE;
    private static final int[] NO_CELLS = {-1, 40, Integer.MIN_VALUE, Integer.MAX_VALUE};
    private static final Due due = new Due();

    public static void main(String[] args) {
        due.sentence("CELLS 0 .. 39", EdgesOfCellsTest::firstAndLastCell);
        due.sentence("hold NOTHING (at first)", EdgesOfCellsTest::nothingAtFirst);
        due.sentence("a NUMBER (a long)", EdgesOfCellsTest::numbersAreLongs);
        due.sentence("a KIND (0 .. 7)", EdgesOfCellsTest::kinds);
        due.sentence("a GROWER (0 .. 7)", EdgesOfCellsTest::growers);
        due.sentence("GRAMS (0 to 1000000000)", EdgesOfCellsTest::grams);
        due.sentence("one more with each EFFECT that has WRITTEN it", EdgesOfCellsTest::versionByEffects);
        due.sentence("each time it is told anew", EdgesOfCellsTest::versionByTelling);
        due.sentence("NONE: none, or it was told since", EdgesOfCellsTest::writerNone);
        due.sentence("no STEPS, TICKETS, RULES, CLASHES", EdgesOfCellsTest::nothingElseAtFirst);
        due.sentence("0 NOTHING, 1 a NUMBER, 2 a LOT", EdgesOfCellsTest::holdings);
        due.sentence("0 if it holds NOTHING, is none", EdgesOfCellsTest::valueOfNone);
        due.sentence("the GROWER (NONE: it holds none)", EdgesOfCellsTest::lotNone);
        due.sentence("the first 12 are kept", EdgesOfCellsTest::twelveAreKept);
        due.sentence("TICKET of those whose EFFECT WROTE a CELL, in order", EdgesOfCellsTest::historyInOrder);
        due.sentence("BAD: the CELL", EdgesOfCellsTest::historyRefusesTheCellAlone);
        due.sentence("GRAMS of all LOTS of a KIND (what = 0), a GROWER (1)", EdgesOfCellsTest::stocks);
        due.end();
    }

    private static void firstAndLastCell() {
        int[] edges = {0, 39};
        for (int c : edges) {
            SeedExchange x = new SeedExchange();
            due.is("number", x.number(c, 6), 1);
            due.is("value", x.value(c), 6);
            due.is("lot", x.lot(c, 1, 2, 3), 2);
            due.is("holds", x.holds(c), 2);
            due.is("empty", x.empty(c), 3);
            due.is("version", x.cell(c, 0), 3);
            due.is("history", x.history(c, 0), Ops.NONE);
            for (int other = 0; other < 40; other++) {
                due.is("version of " + other, x.cell(other, 0), other == c ? 3 : 0);
            }
        }
    }

    private static void nothingAtFirst() {
        SeedExchange x = new SeedExchange();
        for (int c = 0; c < 40; c++) {
            due.is("holds " + c, x.holds(c), 0);
            due.is("version " + c, x.cell(c, 0), 0);
            due.is("writer " + c, x.cell(c, 1), Ops.NONE);
        }
    }

    private static void nothingElseAtFirst() {
        SeedExchange x = new SeedExchange();
        for (int trade = 0; trade < 16; trade++) {
            due.is("clashes of " + trade, x.clash(trade, 1), 0);
            due.is("first step of " + trade, x.step(trade, Ops.PUT, 0, 0), 1);
        }
        due.is("first rule", x.rule(0, 0, 0, 0), 0);
        due.is("ticket 0", x.ticket(0, 0), Ops.BAD);
        due.is("first ticket", x.submit(0), 0);
    }

    private static void numbersAreLongs() {
        long[] numbers = {MIN, -1, 0, 1, MAX};
        SeedExchange x = new SeedExchange();
        for (long v : numbers) {
            x.number(3, v);
            due.is("holds", x.holds(3), 1);
            due.is("value", x.value(3), v);
        }
    }

    private static void kinds() {
        SeedExchange x = new SeedExchange();
        for (int kind = 0; kind <= 7; kind++) {
            due.is("lot", x.lot(3, kind, 4, 5), kind + 1);
            due.is("kind", x.cell(3, 2), kind);
            due.is("stock", x.stock(0, kind), 5);
        }
        due.is("kind -1", x.lot(3, -1, 4, 6), Ops.BAD);
        due.is("kind 8", x.lot(3, 8, 4, 6), Ops.BAD);
        due.is("it stays", x.cell(3, 2), 7);
        due.is("it stays", x.value(3), 5);
    }

    private static void growers() {
        SeedExchange x = new SeedExchange();
        for (int grower = 0; grower <= 7; grower++) {
            due.is("lot", x.lot(3, 4, grower, 5), grower + 1);
            due.is("grower", x.cell(3, 3), grower);
            due.is("stock", x.stock(1, grower), 5);
        }
        due.is("grower -1", x.lot(3, 4, -1, 6), Ops.BAD);
        due.is("grower 8", x.lot(3, 4, 8, 6), Ops.BAD);
        due.is("it stays", x.cell(3, 3), 7);
        due.is("it stays", x.value(3), 5);
    }

    private static void grams() {
        SeedExchange x = new SeedExchange();
        int[] fine = {0, 1, Ops.MOST_GRAMS - 1, Ops.MOST_GRAMS};
        for (int i = 0; i < fine.length; i++) {
            due.is("lot", x.lot(3, 0, 0, fine[i]), i + 1);
            due.is("value", x.value(3), fine[i]);
            due.is("holds", x.holds(3), 2);
        }
        int[] wrong = {-1, Ops.MOST_GRAMS + 1, Integer.MIN_VALUE, Integer.MAX_VALUE};
        for (int g : wrong) {
            due.is("lot of " + g, x.lot(3, 0, 0, g), Ops.BAD);
            due.is("it stays", x.value(3), Ops.MOST_GRAMS);
            due.is("version", x.cell(3, 0), fine.length);
        }
    }

    private static void versionByEffects() {
        SeedExchange x = new SeedExchange();
        x.number(1, 4);
        Ops.playSteps(x, Ops.WRITE, 0, 0, Ops.MORE, 1, 0, Ops.WRITE, 0, 0, Ops.WRITE, 0, 0);
        due.is("written thrice by one", x.cell(0, 0), 1);
        due.is("in the history once", x.history(0, 1), Ops.NONE);
        Ops.playSteps(x, Ops.PUT, 1, 0, Ops.WRITE, 0, 0);
        due.is("the same written", x.cell(0, 0), 2);
        Ops.playSteps(x, Ops.READ, 0, 0);
        due.is("only read", x.cell(0, 0), 2);
        Ops.playSteps(x, Ops.WRITE, 0, 0, Ops.FAIL, 0, 0);
        due.is("by one that failed", x.cell(0, 0), 2);
        Ops.playSteps(x, Ops.WRITE, 0, 0, Ops.WAIT, 0, 0);
        due.is("by one that waits", x.cell(0, 0), 2);
        x.rule(0, 1, 0, 5);
        Ops.playSteps(x, Ops.WRITE, 0, 0);
        due.is("by one that is broken", x.cell(0, 0), 2);
        due.is("writer", x.cell(0, 1), 1);
    }

    private static void versionByTelling() {
        SeedExchange x = new SeedExchange();
        due.is("nothing for nothing", x.empty(0), 1);
        due.is("a number", x.number(0, 5), 2);
        due.is("the same number", x.number(0, 5), 3);
        due.is("a lot", x.lot(0, 1, 1, 5), 4);
        due.is("the same lot", x.lot(0, 1, 1, 5), 5);
        due.is("nothing", x.empty(0), 6);
        due.is("version", x.cell(0, 0), 6);
        Ops.playSteps(x, Ops.WRITE, 0, 0);
        due.is("behind an effect", x.number(0, 0), 8);
    }

    private static void writerNone() {
        SeedExchange x = new SeedExchange();
        due.is("none", x.cell(0, 1), Ops.NONE);
        int t = Ops.playSteps(x, Ops.WRITE, 0, 0, Ops.WRITE, 1, 0, Ops.WRITE, 2, 0, Ops.WRITE, 3, 0);
        due.is("ticket 0", t, 0);
        x.number(0, 0);
        x.lot(1, 0, 0, 0);
        x.empty(2);
        due.is("told the number that it held", x.cell(0, 1), Ops.NONE);
        due.is("told a lot", x.cell(1, 1), Ops.NONE);
        due.is("told nothing", x.cell(2, 1), Ops.NONE);
        due.is("not told", x.cell(3, 1), 0);
        due.is("never written", x.cell(4, 1), Ops.NONE);
        t = Ops.playSteps(x, Ops.WRITE, 0, 0);
        due.is("the latest", x.cell(0, 1), t);
    }

    private static void holdings() {
        SeedExchange x = new SeedExchange();
        x.number(1, 0);
        x.lot(2, 0, 0, 0);
        due.is("nothing", x.holds(0), 0);
        due.is("the number 0", x.holds(1), 1);
        due.is("a lot of 0 grams", x.holds(2), 2);
        x.empty(1);
        x.empty(2);
        due.is("emptied", x.holds(1), 0);
        due.is("emptied", x.holds(2), 0);
    }

    private static void valueOfNone() {
        SeedExchange x = new SeedExchange();
        due.is("never told", x.value(0), 0);
        x.number(0, 9);
        x.empty(0);
        due.is("emptied number", x.value(0), 0);
        x.lot(0, 1, 1, 9);
        due.is("grams", x.value(0), 9);
        x.empty(0);
        due.is("emptied lot", x.value(0), 0);
        for (int c : NO_CELLS) {
            due.is("no cell " + c, x.value(c), 0);
        }
    }

    private static void lotNone() {
        SeedExchange x = new SeedExchange();
        for (int what = 2; what <= 3; what++) {
            x.empty(0);
            due.is("of nothing", x.cell(0, what), Ops.NONE);
            x.lot(0, 0, 0, 0);
            due.is("of a lot", x.cell(0, what), 0);
            x.number(0, 0);
            due.is("of a number", x.cell(0, what), Ops.NONE);
            x.lot(0, 7, 7, 0);
            due.is("of a lot", x.cell(0, what), 7);
            Ops.playSteps(x, Ops.WRITE, 0, 0);
            due.is("of a number written", x.cell(0, what), Ops.NONE);
        }
    }

    private static void twelveAreKept() {
        SeedExchange x = new SeedExchange();
        Ops.steps(x, 0, Ops.WRITE, 0, 0, Ops.WRITE, 39, 0);
        for (int i = 0; i < 13; i++) {
            due.is("not yet " + i, x.history(0, i), Ops.NONE);
            Ops.play(x, 0);
            due.is("the first " + i, x.history(39, i), i < 12 ? i : Ops.NONE);
        }
        for (int i = 0; i < 12; i++) {
            due.is("kept " + i, x.history(0, i), i);
        }
        due.is("the writer is the 13th", x.cell(0, 1), 12);
        due.is("before the first", x.history(0, -1), Ops.NONE);
        due.is("far", x.history(0, Integer.MIN_VALUE), Ops.NONE);
        due.is("far", x.history(39, Integer.MAX_VALUE), Ops.NONE);
        due.is("the next cell has none", x.history(1, 0), Ops.NONE);
    }

    private static void historyInOrder() {
        SeedExchange x = new SeedExchange();
        x.number(1, 0);
        Ops.steps(x, 1, Ops.READ, 1, 0, Ops.MORE, -1, 0, Ops.SKIP, 1, 0, Ops.WAIT, 0, 0, Ops.WRITE, 0, 0);
        Ops.steps(x, 2, Ops.WRITE, 0, 0);
        Ops.play(x, 1);
        Ops.play(x, 2);
        x.number(0, 5);
        x.number(1, 1);
        x.run(1);
        due.is("the first effect", x.history(0, 0), 1);
        due.is("the later effect of a lesser number", x.history(0, 1), 0);
        due.is("telling is no effect", x.history(0, 2), Ops.NONE);
    }

    private static void historyRefusesTheCellAlone() {
        SeedExchange x = new SeedExchange();
        for (int c : NO_CELLS) {
            due.is("cell " + c, x.history(c, 0), Ops.BAD);
            due.is("cell and i " + c, x.history(c, -1), Ops.BAD);
            due.is("i " + c, x.history(0, c), Ops.NONE);
        }
    }

    private static void stocks() {
        SeedExchange x = new SeedExchange();
        for (int of = 0; of <= 7; of++) {
            due.is("empty stock of kind " + of, x.stock(0, of), 0);
            due.is("empty stock of grower " + of, x.stock(1, of), 0);
        }
        x.lot(0, 2, 3, 0);
        due.is("a lot of 0 grams", x.stock(0, 2), 0);
        for (int c = 0; c < 40; c++) {
            x.lot(c, 2, 3, Ops.MOST_GRAMS);
        }
        due.is("all cells full, by kind", x.stock(0, 2), 40L * Ops.MOST_GRAMS);
        due.is("all cells full, by grower", x.stock(1, 3), 40L * Ops.MOST_GRAMS);
        due.is("a grower is no kind", x.stock(0, 3), 0);
        due.is("a kind is no grower", x.stock(1, 2), 0);
        x.number(39, 77);
        x.empty(0);
        due.is("numbers and nothing have no grams", x.stock(0, 2), 38L * Ops.MOST_GRAMS);
        due.is("numbers and nothing have no grams", x.stock(1, 3), 38L * Ops.MOST_GRAMS);
    }
}
