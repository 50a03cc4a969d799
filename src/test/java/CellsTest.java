/** Promises 1 to 9: a new object, number, lot, empty, holds, value, cell, history, stock. */
public final class CellsTest {
    private static final int[] NO_CELLS = {-1, 40, Integer.MIN_VALUE, Integer.MAX_VALUE};
    private static final Due due = new Due();

    public static void main(String[] args) {
        newObject();
        numbers();
        lots();
        emptied();
        writers();
        histories();
        stocks();
        due.end();
    }

    private static void newObject() {
        SeedExchange x = new SeedExchange();
        for (int c = 0; c < 40; c++) {
            due.is("new holds", x.holds(c), 0);
            due.is("new value", x.value(c), 0);
            due.is("new version", x.cell(c, 0), 0);
            due.is("new writer", x.cell(c, 1), Ops.NONE);
            due.is("new kind", x.cell(c, 2), Ops.NONE);
            due.is("new grower", x.cell(c, 3), Ops.NONE);
            due.is("new history", x.history(c, 0), Ops.NONE);
        }
        for (int trade = 0; trade < 16; trade++) {
            due.is("new drop", x.drop(trade), 0);
            due.is("new clash", x.clash(trade, 0), 0);
        }
        for (int what = 0; what <= 7; what++) {
            due.is("new count", x.count(what), 0);
        }
        due.is("new window", x.window(1), 1);
        due.is("new run", x.run(100), 0);
        due.is("no round without a ticket", x.count(4), 0);
        due.is("new ticket", x.ticket(0, 0), Ops.BAD);
    }

    private static void numbers() {
        SeedExchange x = new SeedExchange();
        due.is("number", x.number(0, Long.MIN_VALUE), 1);
        due.is("number again, the same", x.number(0, Long.MIN_VALUE), 2);
        due.is("number last cell", x.number(39, Long.MAX_VALUE), 1);
        due.is("holds", x.holds(0), 1);
        due.is("value", x.value(0), Long.MIN_VALUE);
        due.is("value", x.value(39), Long.MAX_VALUE);
        due.is("version", x.cell(0, 0), 2);
        due.is("kind of a number", x.cell(0, 2), Ops.NONE);
        due.is("grower of a number", x.cell(0, 3), Ops.NONE);
        for (int c : NO_CELLS) {
            due.is("number of no cell", x.number(c, 1), Ops.BAD);
            due.is("lot in no cell", x.lot(c, 0, 0, 0), Ops.BAD);
            due.is("empty of no cell", x.empty(c), Ops.BAD);
            due.is("holds of no cell", x.holds(c), Ops.BAD);
            due.is("value of no cell", x.value(c), 0);
            due.is("cell of no cell", x.cell(c, 0), Ops.BAD);
            due.is("history of no cell", x.history(c, 0), Ops.BAD);
        }
        due.is("cell, no such what", x.cell(0, 4), Ops.BAD);
        due.is("cell, no such what", x.cell(0, -1), Ops.BAD);
    }

    private static void lots() {
        SeedExchange x = new SeedExchange();
        due.is("lot", x.lot(5, 7, 0, 0), 1);
        due.is("holds", x.holds(5), 2);
        due.is("value", x.value(5), 0);
        due.is("lot", x.lot(5, 0, 7, Ops.MOST_GRAMS), 2);
        due.is("value", x.value(5), Ops.MOST_GRAMS);
        due.is("kind", x.cell(5, 2), 0);
        due.is("grower", x.cell(5, 3), 7);
        due.is("kind 8", x.lot(5, 8, 0, 1), Ops.BAD);
        due.is("kind -1", x.lot(5, -1, 0, 1), Ops.BAD);
        due.is("grower 8", x.lot(5, 0, 8, 1), Ops.BAD);
        due.is("grower -1", x.lot(5, 0, -1, 1), Ops.BAD);
        due.is("grams -1", x.lot(5, 0, 0, -1), Ops.BAD);
        due.is("grams above", x.lot(5, 0, 0, Ops.MOST_GRAMS + 1), Ops.BAD);
        due.is("a refusal changes nothing", x.cell(5, 0), 2);
        due.is("a refusal changes nothing", x.value(5), Ops.MOST_GRAMS);
        due.is("a number instead", x.number(5, 3), 3);
        due.is("its kind is gone", x.cell(5, 2), Ops.NONE);
        due.is("its grower is gone", x.cell(5, 3), Ops.NONE);
    }

    private static void emptied() {
        SeedExchange x = new SeedExchange();
        due.is("empty of nothing tells it anew", x.empty(3), 1);
        x.lot(3, 1, 2, 9);
        due.is("empty", x.empty(3), 3);
        due.is("holds", x.holds(3), 0);
        due.is("value", x.value(3), 0);
        due.is("kind", x.cell(3, 2), Ops.NONE);
        due.is("grower", x.cell(3, 3), Ops.NONE);
    }

    private static void writers() {
        SeedExchange x = new SeedExchange();
        Ops.steps(x, 0, Ops.PUT, 4, 0, Ops.WRITE, 1, 0);
        Ops.play(x, 0);
        Ops.play(x, 0);
        due.is("version by effects", x.cell(1, 0), 2);
        due.is("writer", x.cell(1, 1), 1);
        x.number(1, 4);
        due.is("version by telling", x.cell(1, 0), 3);
        due.is("told since", x.cell(1, 1), Ops.NONE);
        due.is("history stays", x.history(1, 1), 1);
        Ops.play(x, 0);
        due.is("writer again", x.cell(1, 1), 2);
        x.lot(1, 0, 0, 0);
        due.is("told a lot since", x.cell(1, 1), Ops.NONE);
        Ops.play(x, 0);
        x.empty(1);
        due.is("told nothing since", x.cell(1, 1), Ops.NONE);
        due.is("another cell has none", x.cell(2, 1), Ops.NONE);
    }

    private static void histories() {
        SeedExchange x = new SeedExchange();
        Ops.steps(x, 0, Ops.WRITE, 1, 0);
        Ops.steps(x, 1, Ops.WRITE, 2, 0);
        Ops.play(x, 1);
        for (int i = 0; i < 14; i++) {
            Ops.play(x, 0);
        }
        for (int i = 0; i < 12; i++) {
            due.is("history", x.history(1, i), i + 1);
        }
        due.is("the 13th is not kept", x.history(1, 12), Ops.NONE);
        due.is("history -1", x.history(1, -1), Ops.NONE);
        due.is("history far", x.history(1, Integer.MAX_VALUE), Ops.NONE);
        due.is("history far", x.history(1, Integer.MIN_VALUE), Ops.NONE);
        due.is("of the cell behind", x.history(2, 0), 0);
        due.is("of the cell behind", x.history(2, 1), Ops.NONE);
        due.is("the writer is kept on", x.cell(1, 1), 14);
    }

    private static void stocks() {
        SeedExchange x = new SeedExchange();
        due.is("no stock", x.stock(0, 0), 0);
        for (int c = 0; c < 40; c++) {
            x.lot(c, 7, c % 2, Ops.MOST_GRAMS);
        }
        due.is("stock beyond an int", x.stock(0, 7), 40L * Ops.MOST_GRAMS);
        due.is("stock of a grower", x.stock(1, 1), 20L * Ops.MOST_GRAMS);
        due.is("stock of another kind", x.stock(0, 1), 0);
        x.number(0, 5);
        due.is("a number is no lot", x.stock(0, 7), 39L * Ops.MOST_GRAMS);
        due.is("stock of a grower", x.stock(1, 0), 19L * Ops.MOST_GRAMS);
        due.is("stock 2", x.stock(2, 0), Ops.BAD);
        due.is("stock -1", x.stock(-1, 0), Ops.BAD);
        due.is("kind 8", x.stock(0, 8), Ops.BAD);
        due.is("kind -1", x.stock(0, -1), Ops.BAD);
        due.is("grower 8", x.stock(1, 8), Ops.BAD);
        due.is("grower -1", x.stock(1, -1), Ops.BAD);
    }
}
