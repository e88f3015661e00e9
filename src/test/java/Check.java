/** What the tests share: counts the answers that are not as due. */
final class Check {
    private final String name;
    private int right = 0;
    private int wrong = 0;

    Check(String name) {
        this.name = name;
    }

    void due(String call, long got, long want) {
        if (got == want) {
            right++;
        } else {
            wrong++;
            System.out.println(name + ": " + call + " answered " + got + ", due is " + want);
        }
    }

    static void feed(BottomryLoans x, String text) {
        for (int i = 0; i < text.length(); i++) {
            x.feed(text.charAt(i));
        }
    }

    /** A new object that has read a text. */
    static BottomryLoans on(String text) {
        BottomryLoans x = new BottomryLoans();
        feed(x, text);
        if (x.voyage() < 0) {
            throw new IllegalStateException("a test's text has a fault: " + text);
        }
        return x;
    }

    void finish() {
        System.out.println(name + ": " + right + " answers as due, " + wrong + " not");
        if (wrong != 0 || right == 0) {
            System.exit(1);
        }
    }
}
