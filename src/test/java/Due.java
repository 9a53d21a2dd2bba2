/** What the tests share: feeding a text, and telling every answer that is not the one that is due. */
final class Due {
    private int wrong = 0;
    private int checked = 0;

    void is(String call, long got, long want) {
        checked++;
        if (got != want) {
            wrong++;
            if (wrong <= 40) {
                System.out.println(call + " answered " + got + ", due is " + want);
            }
        }
    }

    void end() {
        System.out.println(checked + " answers, " + wrong + " not as due");
        if (wrong != 0 || checked == 0) {
            System.exit(1);
        }
    }

    /** Puts a text behind the TAPE, which has whole twenties of bytes or what end() left of them. */
    static void put(UncutTale x, String text) {
        int before = x.count(8);
        for (int at = 0; at < text.length(); at += 20) {
            x.feed(word(text, at), word(text, at + 4), word(text, at + 8), word(text, at + 12), word(text, at + 16));
        }
        x.end(before + text.length());
    }

    static int word(String text, int at) {
        int number = 0;
        for (int i = at; i < at + 4; i++) {
            number = number << 8 | (i < text.length() ? text.charAt(i) & 255 : 0);
        }
        return number;
    }

    static UncutTale told(String text) {
        UncutTale x = new UncutTale();
        put(x, text);
        if (x.tale() < 0) {
            throw new IllegalStateException("a test's tale has a fault at " + x.fault(1) + ": " + text);
        }
        return x;
    }
}
