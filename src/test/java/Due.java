/** Holds answers against those that are due, prints each that is not, and ends the test. */
final class Due {
    private final String name;
    private int asked;
    private int wrong;

    Due(String name) {
        this.name = name;
    }

    void is(String call, long got, long want) {
        asked++;
        if (got != want) {
            wrong++;
            System.out.println(name + ": " + call + " answered " + got + ", due is " + want);
        }
    }

    void holds(String call, boolean got) {
        is(call, got ? 1 : 0, 1);
    }

    void fails(String call, Class<? extends RuntimeException> want, Runnable made) {
        asked++;
        String got = "nothing";
        try {
            made.run();
        } catch (RuntimeException e) {
            got = e.getClass().getName();
        }
        if (!got.equals(want.getName())) {
            wrong++;
            System.out.println(name + ": " + call + " threw " + got + ", due is " + want.getName());
        }
    }

    void end() {
        System.out.println(name + ": " + asked + " answers, " + wrong + " wrong");
        if (wrong != 0) {
            System.exit(1);
        }
    }

    /** Feeds a text, filled up with blanks to twenties. */
    static int feed(RainWishes x, String text) {
        String full = text + " ".repeat((20 - text.length() % 20) % 20);
        int on = x.count(9);
        for (int k = 0; k < full.length(); k += 20) {
            on = x.feed(four(full, k), four(full, k + 4), four(full, k + 8), four(full, k + 12), four(full, k + 16));
        }
        return on;
    }

    private static int four(String text, int at) {
        return text.charAt(at) << 24 | text.charAt(at + 1) << 16 | text.charAt(at + 2) << 8 | text.charAt(at + 3);
    }

    static int tell(RainWishes x, String text) {
        feed(x, text);
        return x.sky(text.length());
    }

    static RainWishes under(String text) {
        RainWishes x = new RainWishes();
        int lines = tell(x, text);
        if (lines < 0) {
            throw new IllegalStateException(text + " has the fault " + x.fault(0) + " at " + x.fault(1));
        }
        return x;
    }

    static void put(RainWishes x, int tray, int sort, long... numbers) {
        x.tray(tray, sort, numbers.length);
        for (int k = 0; k < numbers.length; k++) {
            x.write(tray, k, numbers[k]);
        }
    }
}
