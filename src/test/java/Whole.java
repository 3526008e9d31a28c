import java.util.function.LongSupplier;

/**
 * All that an object tells, written down as a text, so that two may be held against one another. Asking for
 * it uses the object up: trays are emptied, deeds undone, images brought back, the tape told.
 */
final class Whole {
    private final RainWishes x;
    private final StringBuilder told = new StringBuilder();

    private Whole(RainWishes x) {
        this.x = x;
    }

    static String of(RainWishes x) {
        Whole whole = new Whole(x);
        whole.faultAndSky();
        whole.trays();
        whole.deeds();
        whole.tape();
        whole.images();
        return whole.told.toString();
    }

    private String answer(LongSupplier call) {
        try {
            return Long.toString(call.getAsLong());
        } catch (RuntimeException e) {
            return e.getClass().getSimpleName();
        }
    }

    private void ask(String name, LongSupplier call) {
        told.append(name).append('=').append(answer(call)).append('\n');
    }

    private void faultAndSky() {
        ask("fault", () -> x.fault(0));
        ask("place", () -> x.fault(1));
        ask("tape", () -> x.count(9));
        state();
        ask("plans", x::plans);
        ask("most", () -> x.most(1));
        ask("nights", x::nights);
        for (int weather : new int[] {0, 1, 5, 18, 33, 63}) {
            ask("weather", () -> x.weather(weather));
            ask("granted", () -> x.granted(weather));
            ask("why", () -> x.why(weather));
        }
        for (int i = 0; i < Math.min(4, x.count(5)); i++) {
            for (int what = 0; what < 6; what++) {
                int wish = i;
                int asked = what;
                ask("wish " + i + ", " + what, () -> x.wish(wish, asked));
            }
        }
    }

    private void state() {
        for (int what = 0; what < 9; what++) {
            int asked = what;
            ask("count " + what, () -> x.count(asked));
        }
        dues();
    }

    private void dues() {
        for (int i = 0; i < 6; i++) {
            int person = i;
            ask("owes " + i, () -> x.owes(person));
            if (i < x.count(5)) {
                ask("age " + i, () -> x.wish(person, 4));
                ask("open " + i, () -> x.wish(person, 3));
            }
        }
    }

    private void trays() {
        for (int tray = 0; tray < 4; tray++) {
            tray(tray);
        }
    }

    /** What is in a tray comes out as one place after the other becomes 0; its sort by the number that is put. */
    private void tray(int tray) {
        ask("judge", () -> x.judge(tray, 0));
        ask("judge", () -> x.judge(tray, 2));
        ask("wants", () -> x.wants(tray, 1));
        ask("readings", () -> x.readings(tray, 1));
        boolean there = true;
        for (int k = 0; k < 7 && there; k++) {
            int place = k;
            ask("sum", () -> x.holding(tray, 1, 1));
            String put = answer(() -> x.write(tray, place, 0));
            there = put.equals("0");
            told.append(put).append('\n');
        }
        ask("sort", () -> x.write(tray, 0, 0x1234567890abcdefL));
        ask("many", () -> x.write(tray, 29, 0));
    }

    private void deeds() {
        for (int k = 0; k < 10 && x.count(8) > 0; k++) {
            ask("undo", () -> x.undo(1));
            ask("open", () -> x.count(6));
            ask("dues", () -> x.count(7));
            ask("age", () -> x.count(5) > 0 ? x.wish(0, 4) : 0);
        }
        dues();
    }

    private void tape() {
        ask("sky", () -> x.sky(x.count(9)));
        ask("place", () -> x.fault(1));
        ask("days", () -> x.count(2));
        ask("wishes", () -> x.count(5));
    }

    private void images() {
        for (int i = 0; i < 3; i++) {
            int image = i;
            ask("restore", () -> {
                x.restore(image);
                return 0;
            });
            state();
            ask("plans", x::plans);
        }
    }
}
