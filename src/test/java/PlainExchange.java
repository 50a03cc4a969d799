import java.math.BigInteger;
import java.util.ArrayList;
import java.util.HashMap;
import java.util.List;
import java.util.Map;
import java.util.Set;
import java.util.TreeMap;
import java.util.TreeSet;

/**
 * The document once more, in another manner: parts are undone by going back to whole copies,
 * failures are exceptions, versions are compared one by one. Only wrong arguments of queries
 * that the tables of the other tests cover are told shortly.
 */
final class PlainExchange {
    private static final int NONE = -1, BAD = -2, FULL = -3;

    private record Content(int holds, long amount, int kind, int grower) {
        static final Content NOTHING = new Content(0, 0, NONE, NONE);

        static Content number(long v) {
            return new Content(1, v, NONE, NONE);
        }
    }

    private record Step(int op, int a, int b) {
    }

    private record Rule(int kind, int a, int b, long v) {
    }

    private record Act(int kind, int b, long x) {
    }

    private record Note(int ticket, int kind, long tells) {
    }

    private record Place(int trade, int step) {
    }

    /** A failure (1 to 10), or a wait (0). */
    private static final class Stop extends RuntimeException {
        private static final long serialVersionUID = 1;
        final transient int why;
        final transient int told;
        final transient List<Place> way;

        Stop(int why, int told, List<Place> way) {
            super("stop", null, false, false);
            this.why = why;
            this.told = told;
            this.way = List.copyOf(way);
        }
    }

    private static final class Try {
        Map<Integer, Content> written = new TreeMap<>();
        List<Long> answers = new ArrayList<>();
        List<Act> acts = new ArrayList<>();
        final Map<Integer, Integer> readAt = new TreeMap<>();
        final List<Place> place = new ArrayList<>();
        long x;
        int steps;
        Stop stop;
    }

    private static final class Ticket {
        int trade;
        int state;
        int turns;
        int tries;
        int rule = NONE;
        int byCell = NONE;
        int byTicket = NONE;
        Try counted;
    }

    private final Content[] cells = new Content[40];
    private final int[] version = new int[40];
    private final int[] writer = new int[40];
    private final Map<Integer, List<Integer>> history = new HashMap<>();
    private final List<List<Step>> trades = new ArrayList<>();
    private final int[] clashes = new int[16];
    private final List<Rule> rules = new ArrayList<>();
    private final List<Ticket> tickets = new ArrayList<>();
    private final List<Integer> effects = new ArrayList<>();
    private final List<Note> notes = new ArrayList<>();
    private int window = 1;
    private int rounds;
    private int tries;

    PlainExchange() {
        for (int c = 0; c < 40; c++) {
            cells[c] = Content.NOTHING;
            writer[c] = NONE;
            history.put(c, new ArrayList<>());
        }
        for (int i = 0; i < 16; i++) {
            trades.add(new ArrayList<>());
        }
    }

    private static boolean in(long v, long from, long to) {
        return from <= v && v <= to;
    }

    private int tell(int cell, Content content) {
        cells[cell] = content;
        writer[cell] = NONE;
        version[cell]++;
        wake(Set.of(cell), NONE);
        return version[cell];
    }

    private void wake(Set<Integer> changed, int by) {
        for (Ticket t : tickets) {
            if (t.state != 3) {
                continue;
            }
            TreeSet<Integer> seen = new TreeSet<>(t.counted.readAt.keySet());
            seen.retainAll(changed);
            if (!seen.isEmpty()) {
                t.state = 0;
                t.byCell = seen.first();
                t.byTicket = by;
            }
        }
    }

    int number(int cell, long v) {
        return in(cell, 0, 39) ? tell(cell, Content.number(v)) : BAD;
    }

    int lot(int cell, int kind, int grower, int grams) {
        boolean fits = in(cell, 0, 39) && in(kind, 0, 7) && in(grower, 0, 7) && in(grams, 0, 1000000000);
        return fits ? tell(cell, new Content(2, grams, kind, grower)) : BAD;
    }

    int empty(int cell) {
        return in(cell, 0, 39) ? tell(cell, Content.NOTHING) : BAD;
    }

    int holds(int cell) {
        return in(cell, 0, 39) ? cells[cell].holds() : BAD;
    }

    long value(int cell) {
        return in(cell, 0, 39) ? cells[cell].amount() : 0;
    }

    int cell(int cell, int what) {
        if (!in(cell, 0, 39) || !in(what, 0, 3)) {
            return BAD;
        }
        return new int[] {version[cell], writer[cell], cells[cell].kind(), cells[cell].grower()}[what];
    }

    int history(int cell, int i) {
        if (!in(cell, 0, 39)) {
            return BAD;
        }
        List<Integer> past = history.get(cell);
        return in(i, 0, Math.min(12, past.size()) - 1) ? past.get(i) : NONE;
    }

    long stock(int what, int of) {
        return in(what, 0, 1) && in(of, 0, 7) ? grams(cells, what, of) : BAD;
    }

    private static long grams(Content[] of, int what, int which) {
        long sum = 0;
        for (Content c : of) {
            sum += c.holds() == 2 && (what == 0 ? c.kind() : c.grower()) == which ? c.amount() : 0;
        }
        return sum;
    }

    int step(int trade, int op, int a, int b) {
        boolean fits = in(trade, 0, 15) && in(op, 0, 19);
        if (Set.of(1, 2, 3, 6, 8, 9, 10, 11).contains(op)) {
            fits &= in(a, 0, 39);
        }
        if (Set.of(10, 11).contains(op)) {
            fits &= in(b, 0, 39);
        }
        if (op == 13) {
            fits &= in(a, 0, 24);
        }
        if (Set.of(16, 17, 18).contains(op)) {
            fits &= in(a, 0, 15);
        }
        if (op == 18) {
            fits &= in(b, 0, 15);
        }
        if (op == 19) {
            fits &= in(a, 0, 1) && (a == 0 || in(b, 0, 39));
        }
        if (!fits) {
            return BAD;
        }
        List<Step> row = trades.get(trade);
        if (row.size() == 24) {
            return FULL;
        }
        row.add(new Step(op, a, b));
        return row.size();
    }

    int drop(int trade) {
        if (!in(trade, 0, 15)) {
            return BAD;
        }
        int had = trades.get(trade).size();
        trades.get(trade).clear();
        return had;
    }

    int clash(int trade, int many) {
        if (!in(trade, 0, 15) || !in(many, 0, 10)) {
            return BAD;
        }
        int were = clashes[trade];
        clashes[trade] = many;
        return were;
    }

    int rule(int kind, int a, int b, long v) {
        if (!in(kind, 0, 3) || !in(a, 0, kind < 2 ? 39 : 7) || kind == 1 && !in(b, 0, 39)) {
            return BAD;
        }
        if (rules.size() == 10) {
            return FULL;
        }
        rules.add(new Rule(kind, a, b, v));
        return rules.size() - 1;
    }

    int submit(int trade) {
        if (!in(trade, 0, 15)) {
            return BAD;
        }
        if (tickets.size() == 20) {
            return FULL;
        }
        Ticket t = new Ticket();
        t.trade = trade;
        tickets.add(t);
        return tickets.size() - 1;
    }

    int window(int w) {
        if (!in(w, 1, 4)) {
            return BAD;
        }
        int was = window;
        window = w;
        return was;
    }

    int run(int most) {
        if (!in(most, 1, 100)) {
            return BAD;
        }
        int turns = 0;
        for (int i = 0; i < most && count(1) > 0; i++) {
            turns += round();
        }
        return turns;
    }

    private int round() {
        rounds++;
        TreeMap<Integer, Try> ofRound = new TreeMap<>();
        for (int t = 0; t < tickets.size(); t++) {
            if (tickets.get(t).state == 0 && ofRound.size() < window) {
                ofRound.put(t, tryTicket(tickets.get(t)));
            }
        }
        Set<Integer> hadTurn = new TreeSet<>();
        for (int t : ofRound.keySet()) {
            for (int other = 0; other < t; other++) {
                boolean counts = !ofRound.containsKey(other) || hadTurn.contains(other);
                if (counts && tickets.get(other).state == 0) {
                    return hadTurn.size();
                }
            }
            hadTurn.add(t);
            turn(t, ofRound.get(t));
        }
        return hadTurn.size();
    }

    private void turn(int number, Try latest) {
        Ticket t = tickets.get(number);
        t.turns++;
        boolean changed = false;
        for (Map.Entry<Integer, Integer> seen : latest.readAt.entrySet()) {
            changed |= version[seen.getKey()] != seen.getValue();
        }
        if (changed) {
            latest = tryTicket(t);
        }
        int many = clashes[t.trade];
        for (int i = 0; i < Math.min(2, many); i++) {
            latest = tryTicket(t);
        }
        t.counted = many > 2 ? null : latest;
        if (many > 2) {
            t.state = 5;
        } else if (latest.stop != null) {
            boolean waits = latest.stop.why == 0;
            t.state = !waits ? 2 : t.turns == 5 ? 5 : 3;
        } else {
            takeEffectOrBreak(number, t, latest);
        }
    }

    private void takeEffectOrBreak(int number, Ticket t, Try latest) {
        Content[] would = cells.clone();
        latest.written.forEach((c, content) -> would[c] = content);
        for (int i = 0; i < rules.size(); i++) {
            if (!kept(rules.get(i), would)) {
                t.state = 4;
                t.rule = i;
                return;
            }
        }
        t.state = 1;
        effects.add(number);
        latest.written.forEach((c, content) -> {
            cells[c] = content;
            version[c]++;
            writer[c] = number;
            history.get(c).add(number);
        });
        for (Act act : latest.acts) {
            notes.add(new Note(number, act.kind(), tells(act)));
        }
        wake(latest.written.keySet(), number);
    }

    private long tells(Act act) {
        if (act.kind() == 0) {
            return act.x() + act.b();
        }
        Content by = cells[act.b()];
        if (by.holds() != 1) {
            return by.holds() == 0 ? -2 : -4;
        }
        if (by.amount() == 0) {
            return -5;
        }
        BigInteger part = BigInteger.valueOf(act.x()).divide(BigInteger.valueOf(by.amount()));
        return part.bitLength() > 63 ? -6 : part.longValue();
    }

    private static boolean kept(Rule r, Content[] of) {
        if (r.kind() >= 2) {
            return grams(of, r.kind() - 2, r.a()) >= r.v();
        }
        if (of[r.a()].holds() != 1) {
            return true;
        }
        if (r.kind() == 0) {
            return of[r.a()].amount() >= r.v();
        }
        return of[r.b()].holds() != 1 || of[r.a()].amount() <= of[r.b()].amount();
    }

    private Try tryTicket(Ticket t) {
        tries++;
        t.tries++;
        Try now = new Try();
        try {
            trade(now, t.trade);
        } catch (Stop stop) {
            now.stop = stop;
        }
        return now;
    }

    private void trade(Try now, int trade) {
        if (now.place.size() == 6) {
            throw new Stop(9, 0, now.place);
        }
        List<Step> row = trades.get(trade);
        int level = now.place.size();
        now.place.add(null);
        int next = 0;
        while (next < row.size()) {
            now.place.set(level, new Place(trade, next));
            if (now.steps == 40) {
                throw new Stop(10, 0, now.place);
            }
            now.steps++;
            Step s = row.get(next);
            next += s.op() == 13 && now.x == 0 ? 1 + s.a() : 1;
            step(now, s);
        }
        now.place.remove(level);
    }

    private void step(Try now, Step s) {
        int a = s.a();
        int b = s.b();
        switch (s.op()) {
            case 0 -> now.x = a;
            case 1 -> now.x = look(now, a, 1).amount();
            case 2 -> now.written.put(a, Content.number(now.x));
            case 3 -> now.x = fit(now, BigInteger.valueOf(look(now, a, 1).amount()).add(BigInteger.valueOf(now.x)));
            case 4 -> now.x = fit(now, BigInteger.valueOf(now.x).add(BigInteger.valueOf(a)));
            case 5 -> now.x = fit(now, BigInteger.valueOf(now.x).multiply(BigInteger.valueOf(a)));
            case 6 -> part(now, look(now, a, 1).amount());
            case 7 -> {
                stopIf(now, !in(now.x, 0, 39), 2);
                now.x = look(now, (int) now.x, 1).amount();
            }
            case 8 -> now.x = now.x < look(now, a, 1).amount() ? 1 : 0;
            case 9 -> now.x = look(now, a, 2).amount();
            case 10 -> give(now, a, b);
            case 11 -> {
                Content of = look(now, a, -1);
                Content other = look(now, b, -1);
                now.written.put(a, other);
                now.written.put(b, of);
            }
            case 12 -> now.answers.add(now.x);
            case 14 -> throw new Stop(8, a, now.place);
            case 15 -> throw new Stop(0, 0, now.place);
            case 16 -> trade(now, a);
            case 17 -> part(now, a, NONE);
            case 18 -> part(now, a, b);
            case 19 -> now.acts.add(new Act(a, b, now.x));
            default -> {
            }
        }
    }

    /** CATCH without another trade, OR with one. */
    private void part(Try now, int trade, int other) {
        Map<Integer, Content> written = new TreeMap<>(now.written);
        List<Long> answers = new ArrayList<>(now.answers);
        List<Act> acts = new ArrayList<>(now.acts);
        int level = now.place.size();
        long x = now.x;
        try {
            trade(now, trade);
            return;
        } catch (Stop stop) {
            boolean stopped = other == NONE ? in(stop.why, 1, 9) : stop.why == 0 || stop.why == 8;
            if (!stopped) {
                throw stop;
            }
            now.x = other == NONE ? -1L - stop.why : x;
        }
        now.written = written;
        now.answers = answers;
        now.acts = acts;
        while (now.place.size() > level) {
            now.place.remove(level);
        }
        if (other != NONE) {
            trade(now, other);
        }
    }

    private void part(Try now, long by) {
        stopIf(now, by == 0, 4);
        now.x = fit(now, BigInteger.valueOf(now.x).divide(BigInteger.valueOf(by)));
    }

    private void give(Try now, int a, int b) {
        Content from = look(now, a, 2);
        Content to = look(now, b, 2);
        stopIf(now, from.kind() != to.kind(), 7);
        stopIf(now, now.x < 0 || now.x > from.amount(), 6);
        stopIf(now, a != b && to.amount() + now.x > 1000000000L, 6);
        if (a == b) {
            now.written.put(a, from);
            return;
        }
        now.written.put(a, new Content(2, from.amount() - now.x, from.kind(), from.grower()));
        now.written.put(b, new Content(2, to.amount() + now.x, to.kind(), to.grower()));
    }

    private Content look(Try now, int cell, int wanted) {
        if (!now.written.containsKey(cell)) {
            now.readAt.put(cell, version[cell]);
        }
        Content seen = now.written.getOrDefault(cell, cells[cell]);
        stopIf(now, wanted > 0 && seen.holds() == 0, 1);
        stopIf(now, wanted > 0 && seen.holds() != wanted, 3);
        return seen;
    }

    private long fit(Try now, BigInteger v) {
        stopIf(now, v.bitLength() > 63, 5);
        return v.longValue();
    }

    private static void stopIf(Try now, boolean fails, int why) {
        if (fails) {
            throw new Stop(why, 0, now.place);
        }
    }

    int ticket(int t, int what) {
        if (!in(t, 0, tickets.size() - 1) || !in(what, 0, 6)) {
            return BAD;
        }
        Ticket of = tickets.get(t);
        Stop stop = of.state == 2 ? of.counted.stop : null;
        int why = stop == null ? 0 : stop.why;
        int told = stop == null ? 0 : stop.told;
        return new int[] {of.state, of.trade, of.turns, why, told, of.rule, of.tries}[what];
    }

    long answer(int t, int i) {
        if (!in(t, 0, tickets.size() - 1) || tickets.get(t).state != 1 || !in(i, 0, 7)) {
            return 0;
        }
        List<Long> answers = tickets.get(t).counted.answers;
        return i < answers.size() ? answers.get(i) : 0;
    }

    int tried(int t, int what) {
        if (!in(t, 0, tickets.size() - 1) || !in(what, 0, 3)) {
            return BAD;
        }
        Try of = tickets.get(t).counted;
        if (of == null) {
            return NONE;
        }
        int wrote = of.stop == null ? of.written.size() : 0;
        int way = of.stop == null ? 0 : of.stop.way.size();
        return new int[] {of.steps, of.readAt.size(), wrote, way}[what];
    }

    int way(int t, int i, int what) {
        if (!in(t, 0, tickets.size() - 1) || !in(what, 0, 1)) {
            return BAD;
        }
        Try of = tickets.get(t).counted;
        if (of == null || of.stop == null || !in(i, 0, of.stop.way.size() - 1)) {
            return NONE;
        }
        Place place = of.stop.way.get(i);
        return what == 0 ? place.trade() : place.step();
    }

    int read(int t, int cell) {
        if (!in(t, 0, tickets.size() - 1) || !in(cell, 0, 39)) {
            return BAD;
        }
        Try of = tickets.get(t).counted;
        return of != null && of.readAt.containsKey(cell) ? 1 : 0;
    }

    int woken(int t, int what) {
        if (!in(t, 0, tickets.size() - 1) || !in(what, 0, 1)) {
            return BAD;
        }
        return what == 0 ? tickets.get(t).byCell : tickets.get(t).byTicket;
    }

    int order(int i) {
        return in(i, 0, effects.size() - 1) ? effects.get(i) : NONE;
    }

    int note(int i, int what) {
        if (!in(what, 0, 1)) {
            return BAD;
        }
        if (!in(i, 0, Math.min(40, notes.size()) - 1)) {
            return NONE;
        }
        return what == 0 ? notes.get(i).ticket() : notes.get(i).kind();
    }

    long noted(int i) {
        return in(i, 0, Math.min(40, notes.size()) - 1) ? notes.get(i).tells() : 0;
    }

    int count(int what) {
        int ready = 0;
        int waiting = 0;
        for (Ticket t : tickets) {
            ready += t.state == 0 ? 1 : 0;
            waiting += t.state == 3 ? 1 : 0;
        }
        int[] all = {tickets.size(), ready, waiting, effects.size(), rounds, tries, notes.size(), rules.size()};
        return in(what, 0, 7) ? all[what] : BAD;
    }

    long digest() {
        List<Long> all = new ArrayList<>();
        for (int c = 0; c < 40; c++) {
            all.addAll(List.of((long) holds(c), value(c)));
            for (int what = 0; what < 4; what++) {
                all.add((long) cell(c, what));
            }
        }
        for (int t = 0; t < tickets.size(); t++) {
            for (int what = 0; what < 6; what++) {
                all.add((long) ticket(t, what));
            }
            for (int i = 0; i < 8; i++) {
                all.add(answer(t, i));
            }
        }
        effects.forEach(t -> all.add((long) t));
        BigInteger h = BigInteger.valueOf(17);
        for (long v : all) {
            h = h.multiply(BigInteger.valueOf(31)).add(BigInteger.valueOf(v));
        }
        return h.longValue();
    }
}
