/**
 * All that can be learned of an object, in parts, each of at most 400 calls, for an object is used for at most 512.
 * The last parts change it: they ask for what only a change shows.
 */
final class Portrait {
    static final int PARTS = 5;
    private static final int[] SOME_CELLS = {0, 1, 2, 3, 4, 5, 6, 7, 39};

    private final SeedExchange x;
    private final long[] answers = new long[400];
    private int many;

    private Portrait(SeedExchange x) {
        this.x = x;
    }

    /** The answers of a part; those that it does not use are 0. */
    static long[] of(SeedExchange x, int part) {
        Portrait portrait = new Portrait(x);
        switch (part) {
            case 0 -> portrait.cells();
            case 1 -> portrait.tickets();
            case 2 -> portrait.triesAndNotes();
            case 3 -> portrait.whatAChangeShows();
            default -> portrait.whatComesOfIt();
        }
        return portrait.answers;
    }

    private void keep(long answer) {
        answers[many] = answer;
        many++;
    }

    private void cells() {
        for (int c = 0; c < 40; c++) {
            keep(x.holds(c));
            keep(x.value(c));
            for (int what = 0; what <= 3; what++) {
                keep(x.cell(c, what));
            }
            keep(x.history(c, 0));
            keep(x.history(c, 11));
        }
        for (int of = 0; of <= 7; of++) {
            keep(x.stock(0, of));
            keep(x.stock(1, of));
        }
        keep(x.digest());
    }

    private void tickets() {
        for (int t = 0; t < 20; t++) {
            for (int what = 0; what <= 6; what++) {
                keep(x.ticket(t, what));
            }
            for (int what = 0; what <= 3; what++) {
                keep(x.tried(t, what));
            }
            keep(x.woken(t, 0));
            keep(x.woken(t, 1));
            keep(x.answer(t, 0));
            keep(x.answer(t, 7));
            keep(x.order(t));
        }
        for (int what = 0; what <= 7; what++) {
            keep(x.count(what));
        }
    }

    private void triesAndNotes() {
        for (int t = 0; t < 20; t++) {
            for (int i = 0; i <= 1; i++) {
                keep(x.way(t, i, 0));
                keep(x.way(t, i, 1));
            }
            for (int c : SOME_CELLS) {
                keep(x.read(t, c));
            }
        }
        for (int i = 0; i <= 40; i++) {
            keep(x.note(i, 0));
            keep(x.note(i, 1));
            keep(x.noted(i));
        }
    }

    private void whatAChangeShows() {
        keep(x.window(1));
        keep(x.rule(0, 0, 0, 0));
        keep(x.submit(15));
        for (int trade = 0; trade < 16; trade++) {
            keep(x.clash(trade, 0));
            keep(x.drop(trade));
        }
        for (int c = 0; c < 40; c++) {
            keep(x.empty(c));
        }
    }

    private void whatComesOfIt() {
        for (int trade = 0; trade < 16; trade++) {
            keep(x.submit(trade));
        }
        keep(x.run(1));
        keep(x.digest());
        keep(x.run(100));
        for (int c : SOME_CELLS) {
            keep(x.number(c, 1));
        }
        keep(x.run(100));
        keep(x.digest());
        for (int what = 0; what <= 7; what++) {
            keep(x.count(what));
        }
        for (int t = 0; t < 20; t++) {
            keep(x.ticket(t, 6));
            keep(x.tried(t, 0));
        }
        for (int i = 0; i <= 40; i++) {
            keep(x.noted(i));
        }
    }
}
