/** What the tests share: it counts the answers that are not as due. */
final class Checks {
    private static int right = 0;
    private static int wrong = 0;

    private Checks() {
    }

    static void due(String what, long got, long want) {
        if (got == want) {
            right++;
        } else {
            wrong++;
            System.out.println(what + " answered " + got + ", due is " + want);
        }
    }

    static void type(TuneWard x, String bytes) {
        for (int i = 0; i < bytes.length(); i++) {
            due("feed " + bytes.charAt(i), x.feed(bytes.charAt(i)), x.count(2));
        }
    }

    /** A new object that was told a text. */
    static TuneWard told(String bytes) {
        TuneWard x = new TuneWard();
        type(x, bytes);
        int answer = x.text();
        if (answer < 0) {
            wrong++;
            System.out.println("not taken: " + bytes + ": " + answer + ", " + x.fault());
        }
        return x;
    }

    static void close() {
        System.out.println(right + " answers are as due, " + wrong + " are not");
        if (wrong != 0 || right == 0) {
            System.exit(1);
        }
    }
}
