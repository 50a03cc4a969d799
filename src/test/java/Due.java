/** Counts the answers that are not as due, and ends the program by them. */
final class Due {
    private int asked;
    private int wrong;
    private String sentence = "";

    void is(String call, long got, long want) {
        asked++;
        if (got != want) {
            wrong++;
            System.out.println(sentence + call + " answered " + got + ", due is " + want);
        }
    }

    /** A test of a sentence of the document: what is wrong in it is told behind those words. */
    void sentence(String words, Runnable test) {
        int before = asked;
        sentence = "\"" + words + "\": ";
        test.run();
        if (asked == before) {
            wrong++;
            System.out.println(sentence + "nothing was asked");
        }
        sentence = "";
    }

    void end() {
        System.out.println(asked + " answers, " + wrong + " not as due");
        if (wrong != 0 || asked == 0) {
            System.exit(1);
        }
    }
}
