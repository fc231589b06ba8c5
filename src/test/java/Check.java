/** What every test of the project uses: due answers, texts for the tape, and the end of a test. */
final class Check {
    private static int asked = 0;
    private static int wrong = 0;

    private Check() {
    }

    static void due(String call, long got, long want) {
        asked++;
        if (got != want) {
            wrong++;
            if (wrong <= 40) {
                System.out.println(call + " answered " + got + ", due is " + want);
            }
        }
    }

    static void feed(HatFields x, String text) {
        int at = 0;
        while (at < text.length()) {
            int n = Math.min(8, text.length() - at);
            long eight = 0;
            for (int i = n - 1; i >= 0; i--) {
                eight = eight << 8 | text.charAt(at + i) & 255;
            }
            x.feed(eight, n);
            at += n;
        }
    }

    static int tell(HatFields x, String text) {
        feed(x, text);
        return x.plain();
    }

    static HatFields told(String text) {
        HatFields x = new HatFields();
        int answer = tell(x, text);
        if (answer < 0) {
            due("plain() of " + text, answer, 0);
        }
        return x;
    }

    static void finish() {
        System.out.println(asked + " answers, " + wrong + " not as due");
        if (wrong != 0 || asked == 0) {
            System.exit(1);
        }
    }
}
