/** The calls that README.md shows under Use answer what it says there. */
public final class ReadmeTest {
    private static final Due due = new Due();

    public static void main(String[] args) {
        SeedExchange x = new SeedExchange();
        given(x);
        waits(x);
        due.end();
    }

    private static void given(SeedExchange x) {
        x.number(0, 5);
        x.lot(2, 3, 1, 100);
        x.lot(3, 3, 2, 50);
        x.step(0, 1, 0, 0);
        x.step(0, 10, 2, 3);
        int t = x.submit(0);
        x.run(1);
        due.is("ticket(t, 0)", x.ticket(t, 0), 1);
        due.is("value(3)", x.value(3), 55);
    }

    private static void waits(SeedExchange x) {
        x.number(1, 0);
        x.step(1, 1, 1, 0);
        x.step(1, 13, 3, 0);
        x.step(1, 2, 4, 0);
        x.step(1, 0, 0, 0);
        x.step(1, 13, 1, 0);
        x.step(1, 15, 0, 0);
        int w = x.submit(1);
        x.run(1);
        due.is("ticket(w, 0)", x.ticket(w, 0), 3);
        x.number(1, 7);
        due.is("woken(w, 0)", x.woken(w, 0), 1);
        x.run(1);
        due.is("value(4)", x.value(4), 7);
    }
}
