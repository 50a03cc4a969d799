/**
 * A seed exchange: trades as programs over cells, tickets that are tried on what stood and take
 * effect whole or not at all. The numbered promises are in ../shared/DOC.md.
 */
public final class SeedExchange {
    public static final int NONE = -1, BAD = -2, FULL = -3, NOT = -4;

    private static final int CELLS = 40, TRADES = 16, KINDS = 8, GROWERS = 8;
    private static final int STEPS_OF_A_TRADE = 24, STEPS_OF_A_TRY = 40, TRADES_WITHIN = 6;
    private static final int MOST_TICKETS = 20, MOST_RULES = 10, MOST_CLASHES = 10, MOST_ROUNDS = 100;
    private static final int WIDEST_WINDOW = 4, TURNS_OF_A_TICKET = 5, CLASHES_BORNE = 2;
    private static final int ANSWERS_KEPT = 8, NOTES_KEPT = 40, HISTORY_KEPT = 12;
    private static final int MOST_GRAMS = 1000000000;

    private static final int NOTHING = 0, NUMBER = 1, LOT = 2;

    private static final int PUT = 0, READ = 1, WRITE = 2, ADD = 3, MORE = 4, TIMES = 5, PART = 6;
    private static final int AT = 7, BELOW = 8, GRAMS = 9, GIVE = 10, SWAP = 11, SAY = 12, SKIP = 13;
    private static final int FAIL = 14, WAIT = 15, DO = 16, CATCH = 17, OR = 18, AFTER = 19;

    private static final int FINE = 0, NULL = 1, INDEX = 2, CAST = 3, ZERO = 4, SUM = 5, LACK = 6;
    private static final int UNLIKE = 7, TOLD = 8, DEEP = 9, SPENT = 10;
    // No failure, but a try ends by it as by one.
    private static final int WAITS = 11;

    private static final int READY = 0, DONE = 1, FAILED = 2, WAITING = 3, BROKEN = 4, GIVEN_UP = 5;

    private final Shelf shelf;
    private final Trades trades;
    private final Rules rules;
    private final Notes notes;
    private final Ticket[] tickets;
    private final Attempt[] attempts;
    private final Cells wouldStand;
    private final int[] effects;
    private int ticketCount;
    private int effectCount;
    private int roundCount;
    private int tryCount;
    private int windowWidth;
    private long changedInRound;

    public SeedExchange() {
        shelf = new Shelf();
        trades = new Trades();
        rules = new Rules();
        notes = new Notes();
        tickets = new Ticket[MOST_TICKETS];
        attempts = new Attempt[WIDEST_WINDOW];
        // One row of marks serves all attempts, for a mark is of use only while a try goes on.
        Mark[] marks = new Mark[TRADES_WITHIN];
        for (int i = 0; i < TRADES_WITHIN; i++) {
            marks[i] = new Mark();
        }
        for (int i = 0; i < WIDEST_WINDOW; i++) {
            attempts[i] = new Attempt(trades, marks);
        }
        wouldStand = new Cells();
        effects = new int[MOST_TICKETS];
        windowWidth = 1;
    }

    // ---- cells

    public int number(int cell, long v) {
        if (!isCell(cell)) {
            return BAD;
        }
        shelf.standing.put(cell, NUMBER, v, NONE, NONE);
        return tellAnew(cell);
    }

    public int lot(int cell, int kind, int grower, int grams) {
        if (!isCell(cell) || !isKind(kind) || !isGrower(grower) || grams < 0 || grams > MOST_GRAMS) {
            return BAD;
        }
        shelf.standing.put(cell, LOT, grams, kind, grower);
        return tellAnew(cell);
    }

    public int empty(int cell) {
        if (!isCell(cell)) {
            return BAD;
        }
        shelf.standing.put(cell, NOTHING, 0, NONE, NONE);
        return tellAnew(cell);
    }

    public int holds(int cell) {
        return isCell(cell) ? shelf.standing.holding[cell] : BAD;
    }

    public long value(int cell) {
        return isCell(cell) ? shelf.standing.amount[cell] : 0;
    }

    public int cell(int cell, int what) {
        if (!isCell(cell)) {
            return BAD;
        }
        switch (what) {
            case 0: return shelf.version[cell];
            case 1: return shelf.writer[cell];
            case 2: return shelf.standing.kind[cell];
            case 3: return shelf.standing.grower[cell];
            default: return BAD;
        }
    }

    public int history(int cell, int i) {
        if (!isCell(cell)) {
            return BAD;
        }
        boolean kept = i >= 0 && i < shelf.pastLength[cell];
        return kept ? shelf.past[cell * HISTORY_KEPT + i] : NONE;
    }

    public long stock(int what, int of) {
        if (what == 0 && isKind(of)) {
            return shelf.standing.gramsOfKind(of);
        }
        if (what == 1 && isGrower(of)) {
            return shelf.standing.gramsOfGrower(of);
        }
        return BAD;
    }

    // ---- trades

    public int step(int trade, int op, int a, int b) {
        if (!isTrade(trade) || !Trades.fits(op, a, b)) {
            return BAD;
        }
        if (trades.length[trade] >= STEPS_OF_A_TRADE) {
            return FULL;
        }
        return trades.append(trade, op, a, b);
    }

    public int drop(int trade) {
        if (!isTrade(trade)) {
            return BAD;
        }
        int had = trades.length[trade];
        trades.length[trade] = 0;
        return had;
    }

    public int clash(int trade, int many) {
        if (!isTrade(trade) || many < 0 || many > MOST_CLASHES) {
            return BAD;
        }
        int were = trades.clashes[trade];
        trades.clashes[trade] = many;
        return were;
    }

    public int rule(int kind, int a, int b, long v) {
        if (!Rules.fits(kind, a, b)) {
            return BAD;
        }
        if (rules.size >= MOST_RULES) {
            return FULL;
        }
        return rules.append(kind, a, b, v);
    }

    // ---- tickets

    public int submit(int trade) {
        if (!isTrade(trade)) {
            return BAD;
        }
        if (ticketCount >= MOST_TICKETS) {
            return FULL;
        }
        tickets[ticketCount] = new Ticket(trade);
        ticketCount++;
        return ticketCount - 1;
    }

    public int window(int w) {
        if (w < 1 || w > WIDEST_WINDOW) {
            return BAD;
        }
        int was = windowWidth;
        windowWidth = w;
        return was;
    }

    public int run(int rounds) {
        if (rounds < 1 || rounds > MOST_ROUNDS) {
            return BAD;
        }
        int turns = 0;
        for (int i = 0; i < rounds && isReadyBelow(ticketCount); i++) {
            turns += playRound();
        }
        return turns;
    }

    public int ticket(int t, int what) {
        if (!isTicket(t)) {
            return BAD;
        }
        Ticket ticket = tickets[t];
        switch (what) {
            case 0: return ticket.state;
            case 1: return ticket.trade;
            case 2: return ticket.turns;
            case 3: return ticket.failure;
            case 4: return ticket.toldWith;
            case 5: return ticket.brokenRule;
            case 6: return ticket.tries;
            default: return BAD;
        }
    }

    public long answer(int t, int i) {
        if (!isTicket(t)) {
            return 0;
        }
        Ticket ticket = tickets[t];
        boolean given = ticket.state == DONE && i >= 0 && i < ticket.answerCount;
        return given ? ticket.answers[i] : 0;
    }

    public int tried(int t, int what) {
        if (!isTicket(t) || what < 0 || what > 3) {
            return BAD;
        }
        Ticket ticket = tickets[t];
        if (!ticket.hasCounted) {
            return NONE;
        }
        switch (what) {
            case 0: return ticket.steps;
            case 1: return Long.bitCount(ticket.readCells);
            case 2: return ticket.wrote;
            default: return ticket.wayLength;
        }
    }

    public int way(int t, int i, int what) {
        if (!isTicket(t) || what < 0 || what > 1) {
            return BAD;
        }
        Ticket ticket = tickets[t];
        if (i < 0 || i >= ticket.wayLength) {
            return NONE;
        }
        return what == 0 ? ticket.wayTrade[i] : ticket.wayStep[i];
    }

    public int read(int t, int cell) {
        if (!isTicket(t) || !isCell(cell)) {
            return BAD;
        }
        return isAmong(tickets[t].readCells, cell) ? 1 : 0;
    }

    public int woken(int t, int what) {
        if (!isTicket(t) || what < 0 || what > 1) {
            return BAD;
        }
        return what == 0 ? tickets[t].wokenByCell : tickets[t].wokenByTicket;
    }

    public int order(int i) {
        return i >= 0 && i < effectCount ? effects[i] : NONE;
    }

    public int note(int i, int what) {
        if (what < 0 || what > 1) {
            return BAD;
        }
        if (!notes.keeps(i)) {
            return NONE;
        }
        return what == 0 ? notes.ofTicket[i] : notes.kind[i];
    }

    public long noted(int i) {
        return notes.keeps(i) ? notes.tells[i] : 0;
    }

    public int count(int what) {
        switch (what) {
            case 0: return ticketCount;
            case 1: return howManyAre(READY);
            case 2: return howManyAre(WAITING);
            case 3: return effectCount;
            case 4: return roundCount;
            case 5: return tryCount;
            case 6: return notes.came;
            case 7: return rules.size;
            default: return BAD;
        }
    }

    public long digest() {
        long h = 17;
        for (int c = 0; c < CELLS; c++) {
            h = 31 * h + holds(c);
            h = 31 * h + value(c);
            for (int what = 0; what <= 3; what++) {
                h = 31 * h + cell(c, what);
            }
        }
        for (int t = 0; t < ticketCount; t++) {
            for (int what = 0; what <= 5; what++) {
                h = 31 * h + ticket(t, what);
            }
            for (int i = 0; i < ANSWERS_KEPT; i++) {
                h = 31 * h + answer(t, i);
            }
        }
        for (int i = 0; i < effectCount; i++) {
            h = 31 * h + order(i);
        }
        return h;
    }

    // ---- what the calls share

    private static boolean isCell(long cell) {
        return cell >= 0 && cell < CELLS;
    }

    private static boolean isTrade(int trade) {
        return trade >= 0 && trade < TRADES;
    }

    private static boolean isKind(int kind) {
        return kind >= 0 && kind < KINDS;
    }

    private static boolean isGrower(int grower) {
        return grower >= 0 && grower < GROWERS;
    }

    private boolean isTicket(int t) {
        return t >= 0 && t < ticketCount;
    }

    /** Sets of cells are the bits of a long, so that they cost no rows. */
    private static boolean isAmong(long cells, int cell) {
        return (cells & (1L << cell)) != 0;
    }

    private static int leastOf(long cells) {
        for (int c = 0; c < CELLS; c++) {
            if (isAmong(cells, c)) {
                return c;
            }
        }
        return NONE;
    }

    /** FINE, or the failure of dividing x by that. */
    private static int faultOfPart(long x, long by) {
        if (by == 0) {
            return ZERO;
        }
        return x == Long.MIN_VALUE && by == -1 ? SUM : FINE;
    }

    private int tellAnew(int cell) {
        shelf.version[cell]++;
        shelf.writer[cell] = NONE;
        wake(1L << cell, NONE);
        return shelf.version[cell];
    }

    private void wake(long changed, int by) {
        for (int t = 0; t < ticketCount; t++) {
            Ticket ticket = tickets[t];
            long seen = ticket.readCells & changed;
            if (ticket.state == WAITING && seen != 0) {
                ticket.state = READY;
                ticket.wokenByCell = leastOf(seen);
                ticket.wokenByTicket = by;
            }
        }
    }

    private int howManyAre(int state) {
        int many = 0;
        for (int t = 0; t < ticketCount; t++) {
            if (tickets[t].state == state) {
                many++;
            }
        }
        return many;
    }

    private boolean isReadyBelow(int end) {
        for (int t = 0; t < end; t++) {
            if (tickets[t].state == READY) {
                return true;
            }
        }
        return false;
    }

    // ---- rounds and turns

    private int playRound() {
        roundCount++;
        changedInRound = 0;
        int tried = tryLeastReady();
        int turns = 0;
        // Whoever is ready with a lesser number than the next one of the round is either not of
        // the round or had its turn, for those of the round go by number.
        while (turns < tried && !isReadyBelow(attempts[turns].ticket)) {
            takeTurn(attempts[turns]);
            turns++;
        }
        return turns;
    }

    private int tryLeastReady() {
        int tried = 0;
        for (int t = 0; t < ticketCount && tried < windowWidth; t++) {
            if (tickets[t].state == READY) {
                attempts[tried].ticket = t;
                makeTry(attempts[tried]);
                tried++;
            }
        }
        return tried;
    }

    private void makeTry(Attempt attempt) {
        Ticket ticket = tickets[attempt.ticket];
        ticket.tries++;
        tryCount++;
        attempt.begin(shelf.standing);
        attempt.end = attempt.doTrade(ticket.trade, 0);
    }

    private void takeTurn(Attempt attempt) {
        Ticket ticket = tickets[attempt.ticket];
        ticket.turns++;
        // Within a round only effects change versions, and each one to a version not seen yet.
        if ((attempt.readCells & changedInRound) != 0) {
            makeTry(attempt);
        }
        int clashes = trades.clashes[ticket.trade];
        for (int i = 0; i < clashes && i < CLASHES_BORNE; i++) {
            makeTry(attempt);
        }
        if (clashes > CLASHES_BORNE) {
            ticket.forgetTry();
            ticket.state = GIVEN_UP;
        } else {
            endTurn(ticket, attempt);
        }
    }

    private void endTurn(Ticket ticket, Attempt attempt) {
        ticket.keepTry(attempt);
        if (attempt.end == WAITS) {
            ticket.state = ticket.turns >= TURNS_OF_A_TICKET ? GIVEN_UP : WAITING;
        } else if (attempt.end != FINE) {
            ticket.state = FAILED;
            ticket.failure = attempt.end;
            ticket.toldWith = attempt.end == TOLD ? attempt.toldWith : 0;
        } else {
            ticket.brokenRule = leastBrokenBy(attempt);
            if (ticket.brokenRule == NONE) {
                takeEffect(ticket, attempt);
            } else {
                ticket.state = BROKEN;
            }
        }
    }

    private int leastBrokenBy(Attempt attempt) {
        // Cells that the try neither read nor wrote may have changed since, so what would stand
        // is made from what stands and not from what the try saw.
        wouldStand.takeAll(shelf.standing);
        wouldStand.takeThose(attempt.written, attempt.own);
        return rules.leastBroken(wouldStand);
    }

    private void takeEffect(Ticket ticket, Attempt attempt) {
        ticket.state = DONE;
        ticket.keepAnswers(attempt);
        effects[effectCount] = attempt.ticket;
        effectCount++;
        shelf.takeWritten(attempt);
        changedInRound |= attempt.written;
        for (int i = 0; i < attempt.actCount; i++) {
            notes.append(attempt.ticket, attempt.actKind[i], whatActTells(attempt, i));
        }
        wake(attempt.written, attempt.ticket);
    }

    private long whatActTells(Attempt attempt, int i) {
        long x = attempt.actX[i];
        int b = attempt.actB[i];
        if (attempt.actKind[i] == 0) {
            return x + b;
        }
        if (shelf.standing.holding[b] != NUMBER) {
            return -1 - (shelf.standing.holding[b] == NOTHING ? NULL : CAST);
        }
        long by = shelf.standing.amount[b];
        int fault = faultOfPart(x, by);
        return fault == FINE ? x / by : -1 - fault;
    }

    /** What forty cells hold. */
    private static final class Cells {
        final int[] holding = new int[CELLS];
        final long[] amount = new long[CELLS];
        final int[] kind = new int[CELLS];
        final int[] grower = new int[CELLS];

        Cells() {
            for (int c = 0; c < CELLS; c++) {
                kind[c] = NONE;
                grower[c] = NONE;
            }
        }

        void put(int c, int holds, long much, int kindOf, int growerOf) {
            holding[c] = holds;
            amount[c] = much;
            kind[c] = kindOf;
            grower[c] = growerOf;
        }

        void takeAll(Cells from) {
            System.arraycopy(from.holding, 0, holding, 0, CELLS);
            System.arraycopy(from.amount, 0, amount, 0, CELLS);
            System.arraycopy(from.kind, 0, kind, 0, CELLS);
            System.arraycopy(from.grower, 0, grower, 0, CELLS);
        }

        void takeThose(long cells, Cells from) {
            for (int c = 0; c < CELLS; c++) {
                if (isAmong(cells, c)) {
                    put(c, from.holding[c], from.amount[c], from.kind[c], from.grower[c]);
                }
            }
        }

        long gramsOfKind(int of) {
            long sum = 0;
            for (int c = 0; c < CELLS; c++) {
                if (holding[c] == LOT && kind[c] == of) {
                    sum += amount[c];
                }
            }
            return sum;
        }

        long gramsOfGrower(int of) {
            long sum = 0;
            for (int c = 0; c < CELLS; c++) {
                if (holding[c] == LOT && grower[c] == of) {
                    sum += amount[c];
                }
            }
            return sum;
        }
    }

    /** The cells as they stand, and who made them so. */
    private static final class Shelf {
        final Cells standing = new Cells();
        final int[] version = new int[CELLS];
        final int[] writer = new int[CELLS];
        final int[] past = new int[CELLS * HISTORY_KEPT];
        final int[] pastLength = new int[CELLS];

        Shelf() {
            for (int c = 0; c < CELLS; c++) {
                writer[c] = NONE;
            }
        }

        void takeWritten(Attempt attempt) {
            standing.takeThose(attempt.written, attempt.own);
            for (int c = 0; c < CELLS; c++) {
                if (isAmong(attempt.written, c)) {
                    version[c]++;
                    writer[c] = attempt.ticket;
                    remember(c, attempt.ticket);
                }
            }
        }

        private void remember(int c, int t) {
            if (pastLength[c] < HISTORY_KEPT) {
                past[c * HISTORY_KEPT + pastLength[c]] = t;
                pastLength[c]++;
            }
        }
    }

    /** The rows of steps, the steps of one trade behind those of the other. */
    private static final class Trades {
        final int[] length = new int[TRADES];
        final int[] clashes = new int[TRADES];
        final int[] op = new int[TRADES * STEPS_OF_A_TRADE];
        final int[] a = new int[TRADES * STEPS_OF_A_TRADE];
        final int[] b = new int[TRADES * STEPS_OF_A_TRADE];

        static boolean fits(int op, int a, int b) {
            switch (op) {
                case READ: case WRITE: case ADD: case PART: case BELOW: case GRAMS:
                    return isCell(a);
                case GIVE: case SWAP:
                    return isCell(a) && isCell(b);
                case SKIP:
                    return a >= 0 && a <= STEPS_OF_A_TRADE;
                case DO: case CATCH:
                    return isTrade(a);
                case OR:
                    return isTrade(a) && isTrade(b);
                case AFTER:
                    return a == 0 || (a == 1 && isCell(b));
                default:
                    return op >= PUT && op <= AFTER;
            }
        }

        int append(int trade, int opOf, int aOf, int bOf) {
            int i = trade * STEPS_OF_A_TRADE + length[trade];
            op[i] = opOf;
            a[i] = aOf;
            b[i] = bOf;
            length[trade]++;
            return length[trade];
        }
    }

    /** What must hold on the cells as they would stand. */
    private static final class Rules {
        final int[] kind = new int[MOST_RULES];
        final int[] a = new int[MOST_RULES];
        final int[] b = new int[MOST_RULES];
        final long[] v = new long[MOST_RULES];
        int size;

        static boolean fits(int kind, int a, int b) {
            switch (kind) {
                case 0: return isCell(a);
                case 1: return isCell(a) && isCell(b);
                case 2: return isKind(a);
                case 3: return isGrower(a);
                default: return false;
            }
        }

        int append(int kindOf, int aOf, int bOf, long vOf) {
            kind[size] = kindOf;
            a[size] = aOf;
            b[size] = bOf;
            v[size] = vOf;
            size++;
            return size - 1;
        }

        int leastBroken(Cells cells) {
            for (int i = 0; i < size; i++) {
                if (!isKept(i, cells)) {
                    return i;
                }
            }
            return NONE;
        }

        private boolean isKept(int i, Cells cells) {
            switch (kind[i]) {
                case 0: return cells.holding[a[i]] != NUMBER || cells.amount[a[i]] >= v[i];
                case 1: return cells.holding[a[i]] != NUMBER || cells.holding[b[i]] != NUMBER
                        || cells.amount[a[i]] <= cells.amount[b[i]];
                case 2: return cells.gramsOfKind(a[i]) >= v[i];
                default: return cells.gramsOfGrower(a[i]) >= v[i];
            }
        }
    }

    /** What the acts behind the effects told. */
    private static final class Notes {
        final int[] ofTicket = new int[NOTES_KEPT];
        final int[] kind = new int[NOTES_KEPT];
        final long[] tells = new long[NOTES_KEPT];
        int came;

        void append(int t, int kindOf, long what) {
            if (came < NOTES_KEPT) {
                ofTicket[came] = t;
                kind[came] = kindOf;
                tells[came] = what;
            }
            came++;
        }

        boolean keeps(int i) {
            return i >= 0 && i < came && i < NOTES_KEPT;
        }
    }

    /** A ticket, with what is kept of its latest try that counted. */
    private static final class Ticket {
        final int trade;
        int state = READY;
        int turns;
        int tries;
        int failure;
        int toldWith;
        int brokenRule = NONE;
        int wokenByCell = NONE;
        int wokenByTicket = NONE;
        boolean hasCounted;
        int steps;
        long readCells;
        int wrote;
        int wayLength;
        final int[] wayTrade = new int[TRADES_WITHIN];
        final int[] wayStep = new int[TRADES_WITHIN];
        int answerCount;
        final long[] answers = new long[ANSWERS_KEPT];

        Ticket(int trade) {
            this.trade = trade;
        }

        void keepTry(Attempt attempt) {
            boolean fine = attempt.end == FINE;
            hasCounted = true;
            steps = attempt.steps;
            readCells = attempt.readCells;
            wrote = fine ? Long.bitCount(attempt.written) : 0;
            wayLength = fine ? 0 : attempt.wayLength;
            System.arraycopy(attempt.wayTrade, 0, wayTrade, 0, TRADES_WITHIN);
            System.arraycopy(attempt.wayStep, 0, wayStep, 0, TRADES_WITHIN);
        }

        void forgetTry() {
            hasCounted = false;
            readCells = 0;
            wayLength = 0;
        }

        void keepAnswers(Attempt attempt) {
            answerCount = attempt.answerCount;
            System.arraycopy(attempt.answers, 0, answers, 0, ANSWERS_KEPT);
        }
    }

    /** How a try stood ahead of a part that may be undone. */
    private static final class Mark {
        final Cells own = new Cells();
        long x;
        long written;
        int answerCount;
        int actCount;
    }

    /** A try of a ticket: it works on cells of its own, and nobody else sees them. */
    private static final class Attempt {
        final Trades trades;
        final Mark[] marks;
        final Cells own = new Cells();
        int ticket = NONE;
        int end;
        int steps;
        long x;
        long readCells;
        long written;
        int toldWith;
        int wayLength;
        final int[] wayTrade = new int[TRADES_WITHIN];
        final int[] wayStep = new int[TRADES_WITHIN];
        int answerCount;
        final long[] answers = new long[ANSWERS_KEPT];
        int actCount;
        final int[] actKind = new int[STEPS_OF_A_TRY];
        final int[] actB = new int[STEPS_OF_A_TRY];
        final long[] actX = new long[STEPS_OF_A_TRY];

        Attempt(Trades trades, Mark[] marks) {
            this.trades = trades;
            this.marks = marks;
        }

        void begin(Cells standing) {
            own.takeAll(standing);
            end = FINE;
            steps = 0;
            x = 0;
            readCells = 0;
            written = 0;
            toldWith = 0;
            wayLength = 0;
            answerCount = 0;
            actCount = 0;
        }

        /** Answers how it ended; depth is how many trades it stands within. */
        private int doTrade(int trade, int depth) {
            if (depth >= TRADES_WITHIN) {
                return DEEP;
            }
            int ended = FINE;
            for (int at = 0; at < trades.length[trade] && ended == FINE; at++) {
                // Whatever ends a try arises at the latest step that began or was to begin, so
                // the way is right without any care when parts end or are undone.
                wayTrade[depth] = trade;
                wayStep[depth] = at;
                wayLength = depth + 1;
                if (steps >= STEPS_OF_A_TRY) {
                    return SPENT;
                }
                steps++;
                int i = trade * STEPS_OF_A_TRADE + at;
                int op = trades.op[i];
                if (op == SKIP) {
                    at += x == 0 ? trades.a[i] : 0;
                } else if (op == DO || op == CATCH || op == OR) {
                    ended = doPart(op, trades.a[i], trades.b[i], depth);
                } else {
                    ended = doStep(op, trades.a[i], trades.b[i]);
                }
            }
            return ended;
        }

        private int doPart(int op, int trade, int other, int depth) {
            if (op == DO) {
                return doTrade(trade, depth + 1);
            }
            Mark ahead = marks[depth];
            mark(ahead);
            int ended = doTrade(trade, depth + 1);
            if (!isUndone(op, ended)) {
                return ended;
            }
            undo(ahead);
            if (op == CATCH) {
                x = -1 - ended;
                return FINE;
            }
            x = ahead.x;
            return doTrade(other, depth + 1);
        }

        private static boolean isUndone(int op, int ended) {
            if (op == CATCH) {
                return ended != FINE && ended != WAITS && ended != SPENT;
            }
            return ended == WAITS || ended == TOLD;
        }

        private void mark(Mark ahead) {
            ahead.own.takeAll(own);
            ahead.x = x;
            ahead.written = written;
            ahead.answerCount = answerCount;
            ahead.actCount = actCount;
        }

        private void undo(Mark ahead) {
            own.takeAll(ahead.own);
            written = ahead.written;
            answerCount = ahead.answerCount;
            actCount = ahead.actCount;
        }

        private int doStep(int op, int a, int b) {
            switch (op) {
                case PUT:
                    x = a;
                    return FINE;
                case READ: case ADD: case PART: case BELOW: return reckon(op, a);
                case WRITE: return write(a);
                case MORE: return add(a);
                case TIMES: return multiply(a);
                case AT: return isCell(x) ? reckon(READ, (int) x) : INDEX;
                case GRAMS: return weigh(a);
                case GIVE: return give(a, b);
                case SWAP: return swap(a, b);
                case SAY: return say();
                case FAIL: return fail(a);
                case WAIT: return WAITS;
                case AFTER: return putOff(a, b);
                default: return FINE;
            }
        }

        private int write(int cell) {
            own.put(cell, NUMBER, x, NONE, NONE);
            written |= 1L << cell;
            return FINE;
        }

        /** A cell counts as read even if what it holds is not what was looked for. */
        private int look(int cell, int wanted) {
            readCells |= (1L << cell) & ~written;
            if (own.holding[cell] == wanted) {
                return FINE;
            }
            return own.holding[cell] == NOTHING ? NULL : CAST;
        }

        private int reckon(int op, int cell) {
            int fault = look(cell, NUMBER);
            if (fault != FINE) {
                return fault;
            }
            long n = own.amount[cell];
            switch (op) {
                case ADD: return add(n);
                case PART:
                    fault = faultOfPart(x, n);
                    x = fault == FINE ? x / n : x;
                    return fault;
                case BELOW:
                    x = x < n ? 1 : 0;
                    return FINE;
                default:
                    x = n;
                    return FINE;
            }
        }

        private int add(long n) {
            long sum = x + n;
            // A sum is beyond a long if its sign is neither that of x nor that of n.
            if (((x ^ sum) & (n ^ sum)) < 0) {
                return SUM;
            }
            x = sum;
            return FINE;
        }

        private int multiply(int a) {
            long product = x * a;
            if (a != 0 && a != -1 && product / a != x) {
                return SUM;
            }
            // Division would wrap just as this product does, and so could not tell it.
            if (a == -1 && x == Long.MIN_VALUE) {
                return SUM;
            }
            x = product;
            return FINE;
        }

        private int weigh(int cell) {
            int fault = look(cell, LOT);
            if (fault == FINE) {
                x = own.amount[cell];
            }
            return fault;
        }

        private int give(int from, int to) {
            int fault = look(from, LOT);
            if (fault == FINE) {
                fault = look(to, LOT);
            }
            if (fault != FINE) {
                return fault;
            }
            if (own.kind[from] != own.kind[to]) {
                return UNLIKE;
            }
            if (x < 0 || x > own.amount[from] || (from != to && own.amount[to] + x > MOST_GRAMS)) {
                return LACK;
            }
            own.amount[from] -= x;
            own.amount[to] += x;
            written |= (1L << from) | (1L << to);
            return FINE;
        }

        private int swap(int a, int b) {
            long both = (1L << a) | (1L << b);
            readCells |= both & ~written;
            int holding = own.holding[a];
            long amount = own.amount[a];
            int kind = own.kind[a];
            int grower = own.grower[a];
            own.put(a, own.holding[b], own.amount[b], own.kind[b], own.grower[b]);
            own.put(b, holding, amount, kind, grower);
            written |= both;
            return FINE;
        }

        private int say() {
            if (answerCount < ANSWERS_KEPT) {
                answers[answerCount] = x;
                answerCount++;
            }
            return FINE;
        }

        private int fail(int a) {
            toldWith = a;
            return TOLD;
        }

        private int putOff(int kind, int b) {
            if (actCount < STEPS_OF_A_TRY) {
                actKind[actCount] = kind;
                actB[actCount] = b;
                actX[actCount] = x;
                actCount++;
            }
            return FINE;
        }
    }
}
