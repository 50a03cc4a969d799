/** Promises 10 to 13: step, drop, clash, rule; and what the rules mean. */
public final class TradesTest {
    private static final Due due = new Due();

    public static void main(String[] args) {
        stepsTaken();
        stepsRefused();
        dropped();
        clashes();
        rulesTaken();
        numberRules();
        gramRules();
        due.end();
    }

    private static void stepsTaken() {
        SeedExchange x = new SeedExchange();
        int far = Integer.MIN_VALUE;
        for (int i = 1; i <= 24; i++) {
            due.is("step", x.step(0, Ops.PUT, far, far), i);
        }
        due.is("the 25th", x.step(0, Ops.PUT, 0, 0), Ops.FULL);
        due.is("BAD is ahead of FULL", x.step(0, 20, 0, 0), Ops.BAD);
        due.is("last trade", x.step(15, Ops.MORE, far, far), 1);
        int[] free = {Ops.TIMES, Ops.AT, Ops.SAY, Ops.FAIL, Ops.WAIT};
        for (int i = 0; i < free.length; i++) {
            due.is("any number", x.step(1, free[i], far, Integer.MAX_VALUE), i + 1);
        }
        int[] ofA = {Ops.READ, Ops.WRITE, Ops.ADD, Ops.PART, Ops.BELOW, Ops.GRAMS};
        for (int i = 0; i < ofA.length; i++) {
            due.is("any b", x.step(2, ofA[i], 39, far), i + 1);
        }
        due.is("give", x.step(3, Ops.GIVE, 39, 39), 1);
        due.is("swap", x.step(3, Ops.SWAP, 0, 39), 2);
        due.is("skip 0", x.step(3, Ops.SKIP, 0, far), 3);
        due.is("skip 24", x.step(3, Ops.SKIP, 24, far), 4);
        due.is("do", x.step(3, Ops.DO, 15, far), 5);
        due.is("catch", x.step(3, Ops.CATCH, 15, far), 6);
        due.is("or", x.step(3, Ops.OR, 0, 15), 7);
        due.is("after 0", x.step(3, Ops.AFTER, 0, far), 8);
        due.is("after 1", x.step(3, Ops.AFTER, 1, 39), 9);
    }

    private static void stepsRefused() {
        SeedExchange x = new SeedExchange();
        int[] noTrades = {-1, 16, Integer.MIN_VALUE, Integer.MAX_VALUE};
        for (int no : noTrades) {
            due.is("step of no trade", x.step(no, Ops.PUT, 0, 0), Ops.BAD);
            due.is("do no trade", x.step(0, Ops.DO, no, 0), Ops.BAD);
            due.is("catch no trade", x.step(0, Ops.CATCH, no, 0), Ops.BAD);
            due.is("or no trade", x.step(0, Ops.OR, no, 0), Ops.BAD);
            due.is("or no other trade", x.step(0, Ops.OR, 0, no), Ops.BAD);
        }
        int[] noOps = {-1, 20, Integer.MIN_VALUE, Integer.MAX_VALUE};
        for (int no : noOps) {
            due.is("no op", x.step(0, no, 0, 0), Ops.BAD);
        }
        int[] noCells = {-1, 40, Integer.MIN_VALUE, Integer.MAX_VALUE};
        int[] ofA = {Ops.READ, Ops.WRITE, Ops.ADD, Ops.PART, Ops.BELOW, Ops.GRAMS, Ops.GIVE, Ops.SWAP};
        for (int no : noCells) {
            for (int op : ofA) {
                due.is("a is no cell", x.step(0, op, no, 0), Ops.BAD);
            }
            due.is("b is no cell", x.step(0, Ops.GIVE, 0, no), Ops.BAD);
            due.is("b is no cell", x.step(0, Ops.SWAP, 0, no), Ops.BAD);
            due.is("b is no cell", x.step(0, Ops.AFTER, 1, no), Ops.BAD);
        }
        due.is("skip 25", x.step(0, Ops.SKIP, 25, 0), Ops.BAD);
        due.is("skip -1", x.step(0, Ops.SKIP, -1, 0), Ops.BAD);
        due.is("after 2", x.step(0, Ops.AFTER, 2, 0), Ops.BAD);
        due.is("after -1", x.step(0, Ops.AFTER, -1, 0), Ops.BAD);
        due.is("refusals change nothing", x.drop(0), 0);
    }

    private static void dropped() {
        SeedExchange x = new SeedExchange();
        Ops.steps(x, 4, Ops.PUT, 1, 0, Ops.WRITE, 0, 0);
        int t = x.submit(4);
        due.is("drop", x.drop(4), 2);
        due.is("drop again", x.drop(4), 0);
        Ops.steps(x, 4, Ops.PUT, 7, 0, Ops.WRITE, 1, 0, Ops.SAY, 0, 0);
        x.run(1);
        due.is("what it has then", x.holds(0), 0);
        due.is("what it has then", x.value(1), 7);
        due.is("what it has then", x.answer(t, 0), 7);
        x.drop(4);
        int empty = Ops.play(x, 4);
        due.is("a trade without steps", x.ticket(empty, 0), Ops.DONE);
        due.is("a trade without steps", x.tried(empty, 0), 0);
        due.is("drop -1", x.drop(-1), Ops.BAD);
        due.is("drop 16", x.drop(16), Ops.BAD);
    }

    private static void clashes() {
        SeedExchange x = new SeedExchange();
        due.is("clash", x.clash(3, 10), 0);
        due.is("clash", x.clash(3, 1), 10);
        due.is("clash 11", x.clash(3, 11), Ops.BAD);
        due.is("clash -1", x.clash(3, -1), Ops.BAD);
        due.is("clash of no trade", x.clash(16, 1), Ops.BAD);
        due.is("clash of no trade", x.clash(-1, 1), Ops.BAD);
        due.is("refusals change nothing", x.clash(3, 0), 1);
        due.is("of another trade", x.clash(4, 0), 0);
    }

    private static void rulesTaken() {
        SeedExchange x = new SeedExchange();
        int far = Integer.MIN_VALUE;
        due.is("kind 4", x.rule(4, 0, 0, 0), Ops.BAD);
        due.is("kind -1", x.rule(-1, 0, 0, 0), Ops.BAD);
        for (int kind = 0; kind <= 3; kind++) {
            due.is("a is none", x.rule(kind, kind < 2 ? 40 : 8, 0, 0), Ops.BAD);
            due.is("a is none", x.rule(kind, -1, 0, 0), Ops.BAD);
        }
        due.is("b is no cell", x.rule(1, 0, 40, 0), Ops.BAD);
        due.is("b is no cell", x.rule(1, 0, -1, 0), Ops.BAD);
        due.is("rule 0", x.rule(0, 39, far, Long.MIN_VALUE), 0);
        due.is("rule 1", x.rule(1, 39, 39, Long.MAX_VALUE), 1);
        due.is("rule 2", x.rule(2, 7, far, 0), 2);
        due.is("rule 3", x.rule(3, 7, far, 0), 3);
        for (int i = 4; i < 10; i++) {
            due.is("rule", x.rule(0, 0, 0, 0), i);
        }
        due.is("the 11th", x.rule(0, 0, 0, 0), Ops.FULL);
        due.is("BAD is ahead of FULL", x.rule(0, 40, 0, 0), Ops.BAD);
        due.is("rules", x.count(7), 10);
    }

    /** A ticket that writes nothing is BROKEN by what stands. */
    private static void brokenBy(String text, SeedExchange x, int want) {
        int t = Ops.play(x, 15);
        due.is(text, x.ticket(t, 5), want);
        due.is(text, x.ticket(t, 0), want == Ops.NONE ? Ops.DONE : Ops.BROKEN);
    }

    private static void numberRules() {
        SeedExchange x = new SeedExchange();
        x.rule(0, 1, 0, 5);
        brokenBy("no number in it", x, Ops.NONE);
        x.lot(1, 0, 0, 1);
        brokenBy("a lot is no number", x, Ops.NONE);
        x.number(1, 5);
        brokenBy("v itself", x, Ops.NONE);
        x.number(1, 4);
        brokenBy("below v", x, 0);
        x.number(1, 9);
        x.rule(1, 1, 2, 0);
        brokenBy("b holds nothing", x, Ops.NONE);
        x.lot(2, 0, 0, 1);
        brokenBy("b holds a lot", x, Ops.NONE);
        x.number(2, 9);
        brokenBy("not above", x, Ops.NONE);
        x.number(2, 8);
        brokenBy("above", x, 1);
        x.lot(1, 0, 0, 100);
        brokenBy("a holds a lot", x, Ops.NONE);
        x.number(1, 4);
        x.number(2, 3);
        brokenBy("the least one", x, 0);
    }

    private static void gramRules() {
        SeedExchange x = new SeedExchange();
        x.rule(2, 3, 0, 10);
        brokenBy("no grams", x, 0);
        x.lot(0, 3, 1, 6);
        x.lot(1, 3, 2, 4);
        x.lot(2, 4, 1, 50);
        brokenBy("v together", x, Ops.NONE);
        x.lot(1, 3, 2, 3);
        brokenBy("one less", x, 0);
        x.lot(1, 3, 2, 4);
        x.rule(3, 1, 0, 57);
        brokenBy("grower has less", x, 1);
        x.lot(2, 4, 1, 51);
        brokenBy("grower has v", x, Ops.NONE);
        Ops.steps(x, 0, Ops.SWAP, 0, 5, Ops.PUT, 1, 0, Ops.GIVE, 5, 1);
        int t = Ops.play(x, 0);
        due.is("on what would stand", x.ticket(t, 5), 1);
        due.is("a broken one changes nothing", x.value(0), 6);
        due.is("a broken one changes nothing", x.cell(0, 0), 1);
        due.is("what it wrote", x.tried(t, 2), 3);
        due.is("no way", x.tried(t, 3), 0);
    }
}
