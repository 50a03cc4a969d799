import java.util.Arrays;
import java.util.function.ToLongFunction;

/**
 * "Refusals, the first that fits: BAD -2 (no such thing, a number that is not as told), FULL -3": every call that is
 * refused, and every question beyond an edge, in states of many sorts; behind it all is as in an object without it
 * ("They change nothing").
 */
public final class RefusalsTest {
    private static final int LEAST = Integer.MIN_VALUE, MOST = Integer.MAX_VALUE;
    private static final int[] NO_CELLS = {-1, 40, 64, LEAST, MOST};
    private static final int[] NO_TRADES = beyond(15);
    private static final int[] NO_KINDS = beyond(7);
    private static final int[] NO_TICKETS = beyond(19);
    private static final int[] NO_NOTES = beyond(39);
    private static final Due due = new Due();
    private static final long[][][] untouched = new long[Worlds.MANY][Portrait.PARTS][];

    public static void main(String[] args) {
        worldsAreFull();
        due.sentence("number: BAD", RefusalsTest::number);
        due.sentence("lot: BAD", RefusalsTest::lot);
        due.sentence("empty: BAD", RefusalsTest::empty);
        due.sentence("holds, value, cell, history: BAD, 0, NONE", RefusalsTest::questionsOfCells);
        due.sentence("stock: BAD", RefusalsTest::stock);
        due.sentence("step: BAD: the TRADE, OP", RefusalsTest::stepOfNoTradeOrOp);
        due.sentence("step: BAD: a CELL", RefusalsTest::stepOfNoCell);
        due.sentence("step: BAD: a of 13, a TRADE, a and b of 19", RefusalsTest::stepOfNoSkipTradeOrAct);
        due.sentence("step: FULL", RefusalsTest::stepBeyondFull);
        due.sentence("drop: BAD", RefusalsTest::drop);
        due.sentence("clash: BAD", RefusalsTest::clash);
        due.sentence("rule: BAD", RefusalsTest::rule);
        due.sentence("rule: FULL", RefusalsTest::ruleBeyondFull);
        due.sentence("submit: BAD", RefusalsTest::submit);
        due.sentence("submit: FULL", RefusalsTest::submitBeyondFull);
        due.sentence("window: BAD", RefusalsTest::window);
        due.sentence("run: BAD", RefusalsTest::run);
        due.sentence("ticket, tried, way, read, woken: BAD: the TICKET", RefusalsTest::noTicket);
        due.sentence("ticket, tried, way, woken, note, count: BAD: what", RefusalsTest::noWhat);
        due.sentence("read: BAD: the CELL", RefusalsTest::readOfNoCell);
        due.sentence("answer, way, order, note, noted: 0, NONE", RefusalsTest::nonesOfTickets);
        due.sentence("a question changes nothing", RefusalsTest::questions);
        due.sentence("what later calls answer is free", RefusalsTest::callsBeyondTheLast);
        due.end();
    }

    /** Numbers that are not among 0 .. most. */
    private static int[] beyond(int most) {
        return new int[] {-1, most + 1, LEAST, MOST};
    }

    /** Of the call itself, and of all that may be learned behind it. */
    private static void in(int world, String call, int want, ToLongFunction<SeedExchange> made) {
        String text = call + " of a " + Worlds.NAMES[world] + " object";
        for (int part = 0; part < Portrait.PARTS; part++) {
            SeedExchange x = Worlds.make(world);
            due.is(text, made.applyAsLong(x), want);
            if (untouched[world][part] == null) {
                untouched[world][part] = Portrait.of(Worlds.make(world), part);
            }
            boolean same = Arrays.equals(Portrait.of(x, part), untouched[world][part]);
            due.is(text + ", what it has not changed in part " + part, same ? 1 : 0, 1);
        }
    }

    private static void always(String call, int want, ToLongFunction<SeedExchange> made) {
        for (int world = 0; world < Worlds.MANY; world++) {
            in(world, call, want, made);
        }
    }

    private static void isBad(String call, ToLongFunction<SeedExchange> made) {
        always(call, Ops.BAD, made);
    }

    /** A portrait is worth no more than what it has before it. */
    private static void worldsAreFull() {
        SeedExchange busy = Worlds.make(Worlds.BUSY);
        int[] states = {Ops.DONE, Ops.FAILED, Ops.WAITING, Ops.BROKEN, Ops.GIVEN_UP, Ops.FAILED, Ops.DONE, Ops.READY};
        for (int t = 0; t < states.length; t++) {
            due.is("state of ticket " + t, busy.ticket(t, 0), states[t]);
        }
        due.is("one is woken", busy.woken(7, 0), 1);
        due.is("notes", busy.count(6), 2);
        SeedExchange full = Worlds.make(Worlds.FULL);
        due.is("tickets", full.count(0), 20);
        due.is("rules", full.count(7), 10);
        due.is("ready", full.count(1), 6);
        due.is("done", full.count(3), 14);
        due.is("history", full.history(0, 11), 11);
        due.is("notes", full.count(6) > 54 ? 1 : 0, 1);
        due.is("steps", full.drop(0), 24);
    }

    private static void number() {
        for (int c : NO_CELLS) {
            isBad("number of cell " + c, x -> x.number(c, 5));
        }
    }

    private static void lot() {
        for (int c : NO_CELLS) {
            isBad("lot in cell " + c, x -> x.lot(c, 0, 0, 0));
        }
        for (int no : NO_KINDS) {
            isBad("lot of kind " + no, x -> x.lot(0, no, 0, 0));
            isBad("lot of grower " + no, x -> x.lot(0, 0, no, 0));
            isBad("lot of neither", x -> x.lot(0, no, no, 0));
        }
        for (int grams : beyond(Ops.MOST_GRAMS)) {
            isBad("lot of grams " + grams, x -> x.lot(0, 0, 0, grams));
        }
    }

    private static void empty() {
        for (int c : NO_CELLS) {
            isBad("empty of cell " + c, x -> x.empty(c));
        }
    }

    private static void questionsOfCells() {
        for (int c : NO_CELLS) {
            isBad("holds of cell " + c, x -> x.holds(c));
            always("value of cell " + c, 0, x -> x.value(c));
            isBad("cell of cell " + c, x -> x.cell(c, 0));
            isBad("history of cell " + c, x -> x.history(c, 0));
            always("history, place " + c, Ops.NONE, x -> x.history(0, c));
        }
        for (int what : beyond(3)) {
            isBad("cell, what " + what, x -> x.cell(0, what));
        }
    }

    private static void stock() {
        for (int no : NO_KINDS) {
            isBad("stock of kind " + no, x -> x.stock(0, no));
            isBad("stock of grower " + no, x -> x.stock(1, no));
        }
        for (int what : beyond(1)) {
            isBad("stock, what " + what, x -> x.stock(what, 0));
        }
    }

    /** Of trade 0, which may be full (BAD is ahead of FULL), and of one that is not. */
    private static void badStep(int op, int a, int b) {
        isBad("step " + op + " " + a + " " + b, x -> x.step(0, op, a, b));
        isBad("step " + op + " " + a + " " + b, x -> x.step(14, op, a, b));
    }

    private static void stepOfNoTradeOrOp() {
        for (int trade : NO_TRADES) {
            isBad("step of trade " + trade, x -> x.step(trade, Ops.PUT, 0, 0));
        }
        for (int op : beyond(19)) {
            badStep(op, 0, 0);
        }
    }

    private static void stepOfNoCell() {
        int[] ofA = {Ops.READ, Ops.WRITE, Ops.ADD, Ops.PART, Ops.BELOW, Ops.GRAMS, Ops.GIVE, Ops.SWAP};
        for (int c : NO_CELLS) {
            for (int op : ofA) {
                badStep(op, c, 0);
            }
            badStep(Ops.GIVE, 0, c);
            badStep(Ops.SWAP, 0, c);
        }
    }

    private static void stepOfNoSkipTradeOrAct() {
        for (int a : beyond(24)) {
            badStep(Ops.SKIP, a, 0);
        }
        for (int trade : NO_TRADES) {
            badStep(Ops.DO, trade, 0);
            badStep(Ops.CATCH, trade, 0);
            badStep(Ops.OR, trade, 0);
            badStep(Ops.OR, 0, trade);
        }
        for (int a : beyond(1)) {
            badStep(Ops.AFTER, a, 0);
        }
        for (int c : NO_CELLS) {
            badStep(Ops.AFTER, 1, c);
        }
    }

    private static void stepBeyondFull() {
        for (int op = 0; op <= 19; op++) {
            int any = op;
            in(Worlds.FULL, "the 25th step, of op " + op, Ops.FULL, x -> x.step(0, any, 0, 0));
        }
    }

    private static void drop() {
        for (int trade : NO_TRADES) {
            isBad("drop " + trade, x -> x.drop(trade));
        }
    }

    private static void clash() {
        for (int trade : NO_TRADES) {
            isBad("clash of trade " + trade, x -> x.clash(trade, 1));
        }
        for (int many : beyond(10)) {
            isBad("clash of trade 0, many " + many, x -> x.clash(0, many));
            isBad("clash of trade 4, many " + many, x -> x.clash(4, many));
        }
    }

    /** In a full object too, for BAD is ahead of FULL. */
    private static void rule() {
        for (int kind : beyond(3)) {
            isBad("rule of kind " + kind, x -> x.rule(kind, 0, 0, 5));
        }
        for (int c : NO_CELLS) {
            isBad("rule 0 of cell " + c, x -> x.rule(0, c, 0, 5));
            isBad("rule 1 of cell " + c, x -> x.rule(1, c, 0, 5));
            isBad("rule 1 of other cell " + c, x -> x.rule(1, 0, c, 5));
        }
        for (int no : NO_KINDS) {
            isBad("rule 2 of kind " + no, x -> x.rule(2, no, 0, 5));
            isBad("rule 3 of grower " + no, x -> x.rule(3, no, 0, 5));
        }
    }

    private static void ruleBeyondFull() {
        for (int kind = 0; kind <= 3; kind++) {
            int any = kind;
            in(Worlds.FULL, "the 11th rule, of kind " + kind, Ops.FULL, x -> x.rule(any, 0, 0, Long.MAX_VALUE));
        }
    }

    /** In a full object too, for BAD is ahead of FULL. */
    private static void submit() {
        for (int trade : NO_TRADES) {
            isBad("submit " + trade, x -> x.submit(trade));
        }
    }

    private static void submitBeyondFull() {
        for (int trade = 0; trade <= 15; trade++) {
            int any = trade;
            in(Worlds.FULL, "the 21st ticket, of trade " + trade, Ops.FULL, x -> x.submit(any));
        }
    }

    private static void window() {
        int[] noWindows = {0, -1, 5, LEAST, MOST};
        for (int w : noWindows) {
            isBad("window " + w, x -> x.window(w));
        }
    }

    private static void run() {
        int[] noRounds = {0, -1, 101, LEAST, MOST};
        for (int rounds : noRounds) {
            isBad("run " + rounds, x -> x.run(rounds));
        }
    }

    private static void badTicket(String text, int t, int world) {
        String of = text + " of ticket " + t;
        in(world, "ticket" + of, Ops.BAD, x -> x.ticket(t, 0));
        in(world, "answer" + of, 0, x -> x.answer(t, 0));
        in(world, "tried" + of, Ops.BAD, x -> x.tried(t, 0));
        in(world, "way" + of, Ops.BAD, x -> x.way(t, 0, 0));
        in(world, "read" + of, Ops.BAD, x -> x.read(t, 0));
        in(world, "woken" + of, Ops.BAD, x -> x.woken(t, 0));
    }

    private static void noTicket() {
        for (int world = 0; world < Worlds.MANY; world++) {
            for (int t : NO_TICKETS) {
                badTicket("", t, world);
            }
            badTicket(", one behind the last,", Worlds.make(world).count(0), world);
        }
    }

    private static void noWhat() {
        for (int what : beyond(6)) {
            isBad("ticket, what " + what, x -> x.ticket(0, what));
        }
        for (int what : beyond(3)) {
            isBad("tried, what " + what, x -> x.tried(0, what));
        }
        for (int what : beyond(1)) {
            isBad("way, what " + what, x -> x.way(0, 0, what));
            isBad("way of no place, what " + what, x -> x.way(0, -1, what));
            isBad("woken, what " + what, x -> x.woken(0, what));
            isBad("note, what " + what, x -> x.note(0, what));
            isBad("note of none, what " + what, x -> x.note(-1, what));
        }
        for (int what : beyond(7)) {
            isBad("count " + what, x -> x.count(what));
        }
    }

    private static void readOfNoCell() {
        for (int c : NO_CELLS) {
            isBad("read of cell " + c, x -> x.read(0, c));
        }
    }

    private static void nonesOfTickets() {
        for (int i : beyond(19)) {
            always("order " + i, Ops.NONE, x -> x.order(i));
        }
        for (int i : NO_NOTES) {
            always("note " + i, Ops.NONE, x -> x.note(i, 0));
            always("noted " + i, 0, x -> x.noted(i));
        }
        for (int i : beyond(7)) {
            always("answer " + i, 0, x -> x.answer(0, i));
        }
        for (int world = Worlds.BUSY; world <= Worlds.FULL; world++) {
            for (int i : beyond(5)) {
                in(world, "way, place " + i, Ops.NONE, x -> x.way(0, i, 0));
            }
        }
    }

    private static void questions() {
        always("many questions", 0, x -> {
            long all = x.holds(0) + x.value(0) + x.cell(0, 0) + x.history(0, 0) + x.stock(0, 0) + x.ticket(0, 0);
            all += x.answer(0, 0) + x.tried(0, 0) + x.way(0, 0, 0) + x.read(0, 0) + x.woken(0, 0) + x.order(0);
            all += x.note(0, 0) + x.noted(0) + x.count(5) + x.digest();
            return all - all;
        });
    }

    /** Whatever they answer, they end, and throw nothing. */
    private static void callsBeyondTheLast() {
        SeedExchange x = Worlds.make(Worlds.FULL);
        int calls = 0;
        for (int i = 0; i < 3000; i++) {
            x.number(i % 40, i);
            x.step(i % 16, i % 20, i % 16, i % 16);
            x.drop(i % 16);
            x.submit(i % 16);
            x.rule(i % 4, i % 8, i % 40, i);
            x.run(1 + i % 100);
            x.digest();
            calls += 7;
        }
        due.is("calls", calls, 21000);
    }
}
