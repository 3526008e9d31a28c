import java.util.NoSuchElementException;

/** Promises 38 to 43: trays, images, counts. */
public final class TraysTest {
    private static final Class<IllegalArgumentException> BAD = IllegalArgumentException.class;
    private static final Class<IllegalStateException> STATE = IllegalStateException.class;
    private static final Class<NoSuchElementException> NO_SUCH = NoSuchElementException.class;
    private static final Class<IndexOutOfBoundsException> NO_PLACE = IndexOutOfBoundsException.class;
    private static final Due due = new Due("TraysTest");

    public static void main(String[] args) {
        tray();
        write();
        pour();
        image();
        imagesStay();
        imageOfManyDeeds();
        count();
        due.is("the constant", RainWishes.NONE, -1);
        due.end();
    }

    private static void tray() {
        RainWishes x = new RainWishes();
        due.fails("P38 tray 4", NO_SUCH, () -> x.tray(4, 9, 99));
        due.fails("P38 tray -1", NO_SUCH, () -> x.tray(-1, 0, 0));
        due.fails("P38 sort 4", BAD, () -> x.tray(0, 4, 0));
        due.fails("P38 sort -1", BAD, () -> x.tray(0, -1, 0));
        due.fails("P38 many 31", BAD, () -> x.tray(0, 0, 31));
        due.fails("P38 many -1", BAD, () -> x.tray(0, 0, -1));
        due.fails("P38 still missing", STATE, () -> x.write(0, 0, 0));
        x.tray(3, 3, 30);
        due.is("P38 the last place", x.write(3, 29, 5), 5);
        Due.put(x, 0, 0, 9, 9);
        x.tray(0, 0, 2);
        due.is("P38 zeros", x.holding(0, 1, 1), 0);
        due.fails("P38 a throw changes nothing", BAD, () -> x.tray(0, 5, 1));
        due.is("P38 still two places", x.write(0, 1, 3), 3);
        x.tray(0, 0, 0);
        due.fails("P38 no places", NO_PLACE, () -> x.write(0, 0, 0));
    }

    private static void write() {
        RainWishes x = new RainWishes();
        long v = 0x123456789abcdef0L;
        long[] cut = {(byte) v, (short) v, (int) v, v};
        long[] below = {-1, -1, -1, -1};
        long[] high = {-128, 128, 128, 128};
        long[] higher = {0, -32768, 32768, 32768};
        for (int sort = 0; sort < 4; sort++) {
            x.tray(sort, sort, 3);
            due.is("P39 cut to sort " + sort, x.write(sort, 2, v), cut[sort]);
            due.is("P39 -1", x.write(sort, 0, -1), below[sort]);
            due.is("P39 128", x.write(sort, 0, 128), high[sort]);
            due.is("P39 32768", x.write(sort, 0, 32768), higher[sort]);
        }
        due.is("P39 the largest int and 1", x.write(2, 0, 1L << 31), Integer.MIN_VALUE);
        due.is("P39 as it is there", x.write(0, 0, 256 + 7), 7);
        x.write(0, 1, 8);
        x.write(0, 2, 9);
        due.is("P39 as it is there then", x.holding(0, 1, 1), 24);
        due.fails("P39 tray 4", NO_SUCH, () -> x.write(4, 9, 0));
        due.fails("P39 tray -1", NO_SUCH, () -> x.write(-1, 0, 0));
        due.fails("P39 missing", STATE, () -> new RainWishes().write(0, 99, 0));
        due.fails("P39 place 3", NO_PLACE, () -> x.write(0, 3, 0));
        due.fails("P39 place -1", NO_PLACE, () -> x.write(0, -1, 0));
    }

    private static void pour() {
        RainWishes x = Due.under("sky 1 4;clouds 2;wish by 0 must:wet 0 1=1;");
        x.tray(0, 0, 3);
        due.is("P40 as many as it has places", x.pour(0), 3);
        x.write(0, 0, 2);
        due.is("P40 the least first: 2, 3, 6", x.holding(0, 1, 1), 11);
        Due.put(x, 1, 0, 50, 50, 50, 50, 50, 50);
        due.is("P40 as many as there are", x.pour(1), 4);
        due.is("P40 the rest stays: 2, 3, 6, 10, 50, 50", x.holding(1, 1, 1), 121);
        x.tray(2, 0, 0);
        due.is("P40 no places", x.pour(2), 0);
        due.fails("P40 tray 4", NO_SUCH, () -> x.pour(4));
        due.fails("P40 missing", STATE, () -> x.pour(3));
        RainWishes y = Due.under("sky 2 4;clouds 1;");
        y.tray(0, 0, 30);
        due.is("P40 nine plans", y.pour(0), 9);
        due.is("P40 the ninth is cut to its sort: no cells", y.judge(0, 0), 8);
        y.tray(0, 1, 30);
        y.pour(0);
        due.is("P40 not cut", y.judge(0, 0), -1);
        due.is("P40 none can be", pourNone(), 0);
    }

    private static int pourNone() {
        RainWishes x = Due.under("sky 1 1;wish by 0 must:1=2;");
        x.tray(0, 0, 3);
        return x.pour(0);
    }

    private static void image() {
        RainWishes x = new RainWishes();
        due.fails("P41 image(3)", NO_SUCH, () -> x.image(3));
        due.fails("P41 image(-1)", NO_SUCH, () -> x.image(-1));
        due.fails("P42 restore(3)", NO_SUCH, () -> x.restore(3));
        due.fails("P42 restore(-1)", NO_SUCH, () -> x.restore(-1));
        due.fails("P42 restore(2)", STATE, () -> x.restore(2));
        x.thank(1, 4);
        x.image(2);
        Due.tell(x, "sky 2 3;clouds 2;wind 1;wish by 0 weight 2:all=1;wish by 1 must:on 0=1;wish by 3:all>0;");
        x.night(1);
        x.withdraw(0);
        x.image(0);
        int plans = x.plans();
        Due.feed(x, "sky 9");
        x.sky(5);
        Due.feed(x, "wind");
        x.tray(0, 0, 1);
        x.night(1);
        x.undo(2);
        x.restore(0);
        due.is("P42 deeds", x.count(8), 2);
        due.is("P42 open", x.count(6), 0);
        due.is("P42 plans", x.plans(), plans);
        due.is("P42 the tape is not in it", x.count(9), 20);
        due.is("P42 nor the fault", x.fault(0), 3);
        due.is("P42 nor trays", x.write(0, 0, 1), 1);
        due.is("P42 undone from it", x.undo(1), 1);
        due.is("P42 the wish is open", x.wish(0, 3), 1);
        due.is("P42 its weathers", x.wish(0, 5), 6);
        x.restore(2);
        due.is("P42 without a sky", x.count(1), 0);
        due.is("P42 no wishes", x.count(5), 0);
        due.is("P42 dues", x.owes(1), -4);
        due.is("P42 its deed", x.undo(1), 0);
        due.is("P42 undone", x.owes(1), 0);
        due.is("P42 one plan", x.plans(), 1);
        due.is("P42 clouds", x.count(3), 3);
        x.restore(2);
        due.is("P42 a second time", x.owes(1), -4);
    }

    private static void imagesStay() {
        RainWishes x = Due.under("sky 1 2;wish by 0:wet 0 1=1;");
        x.image(1);
        Due.tell(x, "sky 1 3;wish by 5 weight 9:all=2;wish by 0:all=3;");
        due.is("P42 the other sky", x.together(1), 3);
        x.image(0);
        x.restore(1);
        due.is("P42 the first sky", x.together(1), 2);
        due.is("P42 its wishes", x.count(5), 1);
        due.is("P42 by whom", x.wish(0, 0), 0);
        x.restore(0);
        due.is("P42 the other one", x.together(1), 3);
        due.is("P42 by whom there", x.wish(0, 0), 5);
        due.is("P42 how weighty there", x.wish(0, 1), 9);
        x.night(3);
        x.image(1);
        x.restore(0);
        due.is("P41 made anew, another is as it was", x.count(6), 2);
        x.restore(1);
        due.is("P41 made anew", x.count(6), 1);
    }

    /** Deeds that were forgotten before the image was made stay forgotten. */
    private static void imageOfManyDeeds() {
        RainWishes x = new RainWishes();
        for (int k = 1; k <= 13; k++) {
            x.thank(0, k);
        }
        x.image(0);
        Due.tell(x, "sky 1 1;");
        x.thank(0, 50);
        x.restore(0);
        due.is("P42 deeds", x.undo(3), 7);
        due.is("P42 the latest three are undone", x.owes(0), -55);
        due.is("P42 all of them", x.undo(7), 0);
        due.is("P42 the eldest are forgotten", x.owes(0), -6);
    }

    private static void count() {
        RainWishes x = Due.under("sky 2 3;wind 1;wind 2;clouds 4;wish by 0 weight 3:1=1;wish by 1:all=1;");
        x.night(0);
        x.thank(2, 1);
        Due.feed(x, "x");
        int[] wants = {6, 2, 3, 4, 2, 2, 1, 2, 2, 20};
        for (int what = 0; what < 10; what++) {
            due.is("P43 count(" + what + ")", x.count(what), wants[what]);
        }
        due.is("P43 count(10)", x.count(10), -1);
        due.is("P43 count(-1)", x.count(-1), -1);
    }
}
