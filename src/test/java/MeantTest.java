import java.util.NoSuchElementException;

/** Promises 25, 26, 36 and 37: what was wanted, what was badly said, what to hold back. */
public final class MeantTest {
    private static final Class<IllegalArgumentException> BAD = IllegalArgumentException.class;
    private static final Class<IllegalStateException> STATE = IllegalStateException.class;
    private static final Class<NoSuchElementException> NO_SUCH = NoSuchElementException.class;
    private static final Due due = new Due("MeantTest");

    public static void main(String[] args) {
        wants();
        wantsThrows();
        readings();
        readingsThrows();
        holding();
        grants();
        holdingThrows();
        due.end();
    }

    private static void wanted(RainWishes x, int cells, int sets, int first, int second, int third) {
        int[] wants = {cells, sets, first, second, third};
        int[] whats = {0, 1, 10, 11, 12};
        for (int k = 0; k < 5; k++) {
            due.is("P25 wants(0, " + whats[k] + ")", x.wants(0, whats[k]), wants[k]);
        }
    }

    private static long thanked(int weather) {
        return 2L * weather + 1;
    }

    private static long not(int weather) {
        return 2L * weather;
    }

    private static void wants() {
        RainWishes x = Due.under("sky 2 2;wind 1;clouds 0;");
        Due.put(x, 0, 0, thanked(3), thanked(15));
        wanted(x, 0, 1, -1, -1, -1);
        Due.put(x, 0, 0, thanked(3), not(8));
        wanted(x, 1, 3, 1, -1, -1);
        Due.put(x, 0, 0, not(3), thanked(8));
        wanted(x, 1, 3, 0, -1, -1);
        Due.put(x, 0, 0, thanked(3), not(1), not(2), thanked(15));
        wanted(x, 2, 1, 1, 3, -1);
        Due.put(x, 0, 0, thanked(7), not(6), not(5), not(3));
        wanted(x, 3, 1, 1, 3, 5);
        Due.put(x, 0, 0, thanked(15), not(14), not(13), not(11), not(7));
        wanted(x, -1, -1, -1, -1, -1);
        Due.put(x, 0, 0, thanked(5), not(5));
        wanted(x, -1, -1, -1, -1, -1);
        Due.put(x, 0, 0, not(0));
        wanted(x, 1, 4, 1, -1, -1);
        Due.put(x, 0, 0, not(0), not(15));
        wanted(x, 2, 12, 0, 3, -1);
        Due.put(x, 0, 0, thanked(9), thanked(9), not(9 ^ 15), not(9 ^ 15));
        wanted(x, 1, 4, 1, -1, -1);
        RainWishes y = Due.under("sky 3 4;");
        Due.put(y, 0, 1, thanked(4095), thanked(2048), not(0), not(2047), not(1024), not(1), not(2), not(4), not(8),
                not(16), not(32), not(64));
        wanted(y, 1, 1, 23, -1, -1);
        Due.put(y, 0, 1, thanked(0), not(2048), not(1), thanked(6));
        wanted(y, 2, 1, 0, 22, -1);
    }

    private static void wantsThrows() {
        RainWishes x = new RainWishes();
        due.fails("P25 tray 4", NO_SUCH, () -> x.wants(4, 0));
        due.fails("P25 tray -1", NO_SUCH, () -> x.wants(-1, 0));
        due.fails("P25 missing", STATE, () -> x.wants(0, 99));
        x.tray(0, 0, 0);
        due.fails("P25 no parishes", STATE, () -> x.wants(0, 99));
        Due.tell(x, "sky 2 2;");
        due.fails("P25 no numbers", BAD, () -> x.wants(0, 0));
        x.tray(0, 0, 13);
        due.fails("P25 13 numbers", BAD, () -> x.wants(0, 0));
        x.tray(0, 0, 12);
        due.is("P25 12 numbers", x.wants(0, 0), 1);
        x.write(0, 11, 32);
        due.fails("P25 another cell", BAD, () -> x.wants(0, 0));
        x.write(0, 11, -1);
        due.fails("P25 below 0", BAD, () -> x.wants(0, 0));
        x.write(0, 11, 31);
        due.is("P25 the largest", x.wants(0, 0), 1);
        for (int what : new int[] {-1, 2, 9, 13}) {
            due.fails("P25 what " + what, BAD, () -> x.wants(0, what));
        }
        Due.put(x, 1, 3, 1L << 32);
        due.fails("P25 a long one", BAD, () -> x.wants(1, 0));
    }

    private static void read(RainWishes x, int all, int unlike, int kindest, int safest) {
        int[] wants = {all, unlike, kindest, safest};
        for (int what = 0; what < 4; what++) {
            due.is("P26 readings(0, " + what + ")", x.readings(0, what), wants[what]);
        }
    }

    private static void readings() {
        RainWishes x = Due.under("sky 1 3;clouds 3;");
        Due.put(x, 0, 0, 1);
        read(x, 1, 1, 4, 4);
        Due.put(x, 0, 0, 1, 0, 3);
        read(x, 1, 1, 2, 2);
        Due.put(x, 0, 0, 1, 1, 3);
        read(x, 1, 1, 6, 6);
        Due.put(x, 0, 0, 1, 0, 3, 1, 5);
        read(x, 2, 2, 5, 3);
        Due.put(x, 0, 0, 1, 1, 3, 0, 5);
        read(x, 2, 2, 5, 3);
        Due.put(x, 0, 0, 1, 0, 1, 1, 1);
        read(x, 2, 1, 4, 4);
        Due.put(x, 0, 0, 1, 0, 0, 1, 3);
        read(x, 2, 2, 4, 2);
        Due.put(x, 0, 0, 0, 0, 2, 0, 4, 0, 5, 0, 3);
        read(x, 14, 1, 0, 0);
        Due.put(x, 0, 0, 1, 1, 3, 1, 5, 1, 2);
        read(x, 5, 1, 8, 8);
        RainWishes y = Due.under("sky 1 5;clouds 1;");
        Due.put(y, 0, 0, 1, 0, 3, 1, 5, 0, 7, 1, 9);
        due.is("P26 14 readings", y.readings(0, 0), 14);
        RainWishes wind = Due.under("sky 2 2;clouds 1;wind 1;");
        Due.put(wind, 0, 0, 7);
        due.is("P26 each plan counted, by its weather", wind.readings(0, 2), 2);
        RainWishes must = Due.under("sky 1 2;wish by 0 must:wet 0 0=1;");
        Due.put(must, 0, 0, 3);
        due.is("P26 plans that can be", must.readings(0, 2), 1);
        RainWishes none = Due.under("sky 1 2;wish by 0 must:1=2;");
        Due.put(none, 0, 0, 3);
        due.is("P26 no plan can be", none.readings(0, 2), 0);
        due.is("P26 no plan can be, the safest", none.readings(0, 3), 0);
    }

    private static void readingsThrows() {
        RainWishes x = new RainWishes();
        due.fails("P26 tray 4", NO_SUCH, () -> x.readings(4, 9));
        due.fails("P26 missing", STATE, () -> x.readings(3, 9));
        x.tray(3, 0, 1);
        due.fails("P26 no cells", BAD, () -> x.readings(3, 0));
        Due.tell(x, "sky 2 2;");
        due.is("P26 one number", x.readings(3, 0), 1);
        due.fails("P26 what 4", BAD, () -> x.readings(3, 4));
        due.fails("P26 what -1", BAD, () -> x.readings(3, -1));
        for (int many : new int[] {0, 2, 4, 6, 8, 10, 11, 13}) {
            x.tray(3, 0, many);
            due.fails("P26 " + many + " numbers", BAD, () -> x.readings(3, 0));
        }
        x.tray(3, 0, 9);
        due.is("P26 9 numbers", x.readings(3, 0), 14);
        x.write(3, 8, 8);
        due.fails("P26 another cell", BAD, () -> x.readings(3, 0));
        x.write(3, 8, 7);
        due.is("P26 the last cell", x.readings(3, 0), 14);
        x.write(3, 8, -1);
        due.fails("P26 below 0", BAD, () -> x.readings(3, 0));
        x.write(3, 8, 0);
        x.write(3, 7, 2);
        due.fails("P26 neither and nor or", BAD, () -> x.readings(3, 0));
        x.write(3, 7, -1);
        due.fails("P26 neither, below 0", BAD, () -> x.readings(3, 0));
        Due.put(x, 3, 3, 1, 1L << 40, 1);
        due.fails("P26 a long one", BAD, () -> x.readings(3, 0));
    }

    private static void holding() {
        RainWishes x = new RainWishes();
        Due.put(x, 0, 0, 10);
        due.is("P36 one weight", x.holding(0, 6, 2), 20);
        due.is("P36 more clouds than nights", x.holding(0, 3, 6), 30);
        due.is("P36 no clouds", x.holding(0, 3, 0), 0);
        Due.put(x, 0, 0, 0, 10);
        due.is("P36 one night", x.holding(0, 1, 1), 10);
        due.is("P36 two nights, one cloud: 7.5 times 4", x.holding(0, 2, 1), 30);
        due.is("P36 two nights, two clouds: 10 times 4", x.holding(0, 2, 2), 40);
        Due.put(x, 0, 0, 1, 2, 3);
        due.is("P36 three weights: 3, 2, 2 times 3", x.holding(0, 2, 1), 9 + 6 + 6);
        Due.put(x, 0, 3, 99, 99, 99, 99, 99, 99);
        due.is("P36 the most", x.holding(0, 6, 6), 46656L * 99 * 6);
        due.is("P36 the same with other nights then", x.holding(0, 2, 6), 36L * 99 * 2);
    }

    private static void grants() {
        RainWishes x = new RainWishes();
        Due.put(x, 1, 0, 9, 2, 6, 4);
        due.is("P37 the last night: the least", x.grants(1, 1, 1), 2);
        due.is("P37 two nights, worth 5.25", x.grants(1, 2, 1), 6);
        due.is("P37 as many clouds as nights", x.grants(1, 2, 2), 2);
        due.is("P37 no clouds", x.grants(1, 2, 0), -1);
        Due.put(x, 1, 0, 2, 4, 0);
        due.is("P37 no worse: alike is enough", x.grants(1, 2, 1), 2);
        Due.put(x, 1, 0, 0);
        due.is("P37 of weight 0", x.grants(1, 6, 1), 0);
    }

    private static void holdingThrows() {
        RainWishes x = new RainWishes();
        due.fails("P36 tray 4", NO_SUCH, () -> x.holding(4, 0, 0));
        due.fails("P37 tray -1", NO_SUCH, () -> x.grants(-1, 0, 0));
        due.fails("P36 missing", STATE, () -> x.holding(2, 0, 0));
        due.fails("P37 missing", STATE, () -> x.grants(2, 0, 0));
        x.tray(2, 2, 0);
        due.fails("P36 no numbers", BAD, () -> x.holding(2, 1, 1));
        due.fails("P37 no numbers", BAD, () -> x.grants(2, 1, 1));
        x.tray(2, 2, 7);
        due.fails("P36 7 numbers", BAD, () -> x.holding(2, 1, 1));
        x.tray(2, 2, 6);
        due.is("P36 6 numbers", x.holding(2, 1, 1), 0);
        int[][] wrong = {{0, 1}, {7, 1}, {1, -1}, {1, 7}};
        for (int[] nc : wrong) {
            due.fails("P36 n, c", BAD, () -> x.holding(2, nc[0], nc[1]));
            due.fails("P37 n, c", BAD, () -> x.grants(2, nc[0], nc[1]));
        }
        x.write(2, 5, 100);
        due.fails("P36 100", BAD, () -> x.holding(2, 1, 1));
        due.fails("P37 100", BAD, () -> x.grants(2, 1, 0));
        x.write(2, 5, -1);
        due.fails("P36 -1", BAD, () -> x.holding(2, 1, 1));
        Due.put(x, 2, 3, 1L << 33);
        due.fails("P36 a long one", BAD, () -> x.holding(2, 1, 1));
    }
}
