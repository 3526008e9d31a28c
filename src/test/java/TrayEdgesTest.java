import java.util.NoSuchElementException;

/**
 * Each sentence of the document that bounds trays, images and counts: just within, just beyond. The sentence
 * stands above its test. (Every call on a tray that is none or missing: MeantEdgesTest.)
 */
public final class TrayEdgesTest {
    private static final Class<IllegalArgumentException> BAD = IllegalArgumentException.class;
    private static final Class<IllegalStateException> STATE = IllegalStateException.class;
    private static final Class<NoSuchElementException> NO_SUCH = NoSuchElementException.class;
    private static final Class<IndexOutOfBoundsException> NO_PLACE = IndexOutOfBoundsException.class;
    private static final int[] FAR = {-1, Integer.MIN_VALUE, Integer.MAX_VALUE};
    private static final Due due = new Due("TrayEdgesTest");

    public static void main(String[] args) {
        noSuchTray();
        noSuchSort();
        notSoMany();
        rowOfNoughts();
        noSuchPlace();
        cutToSort();
        asItIsThere();
        pourAsManyPlaces();
        pourAsManyPlans();
        pourCut();
        pourNone();
        noSuchImage();
        noneWasMade();
        allButTapeFaultTrays();
        imageOfTheEmpty();
        imageOfTheFull();
        imagesApart();
        agesAndDuesInImages();
        countOthers();
        countEdges();
        due.end();
    }

    /** P38: NoSuchElementException: no such TRAY; TRAYS 0 to 3 are MISSING at first. */
    private static void noSuchTray() {
        RainWishes x = new RainWishes();
        for (int tray = 0; tray < 4; tray++) {
            int missing = tray;
            due.fails("P39 missing at first", STATE, () -> x.write(missing, 0, 0));
            x.tray(tray, tray, 1);
            due.is("P39 there now", x.write(tray, 0, 5), 5);
            for (int other = tray + 1; other < 4; other++) {
                int still = other;
                due.fails("P39 the others are missing still", STATE, () -> x.write(still, 0, 0));
            }
        }
        for (int tray : new int[] {4, 5, 31}) {
            due.fails("P38 tray " + tray, NO_SUCH, () -> x.tray(tray, 0, 1));
        }
        for (int tray : FAR) {
            due.fails("P38 tray " + tray, NO_SUCH, () -> x.tray(tray, 0, 1));
        }
    }

    /** P38: IllegalArgumentException: no such sort. */
    private static void noSuchSort() {
        RainWishes x = new RainWishes();
        for (int sort : new int[] {4, 5, 8, -1, Integer.MIN_VALUE, Integer.MAX_VALUE}) {
            due.fails("P38 sort " + sort, BAD, () -> x.tray(0, sort, 1));
            due.fails("P38 sort " + sort + ", no places", BAD, () -> x.tray(0, sort, 0));
        }
        due.fails("P38 missing still", STATE, () -> x.write(0, 0, 0));
        for (int sort = 0; sort < 4; sort++) {
            x.tray(0, sort, 1);
            due.is("P38 sort " + sort, x.write(0, 0, 7), 7);
        }
    }

    /** rows of 0 to 30 numbers. P38: IllegalArgumentException: or not so many. */
    private static void notSoMany() {
        RainWishes x = new RainWishes();
        for (int many = 0; many <= 30; many++) {
            x.tray(0, 1, many);
            due.is("P34 so many places", x.perform(0), many);
            int last = many;
            due.fails("P39 no more", NO_PLACE, () -> x.write(0, last, 0));
        }
        for (int many : new int[] {31, 32, 100, -1, Integer.MIN_VALUE, Integer.MAX_VALUE}) {
            due.fails("P38 many " + many, BAD, () -> x.tray(0, 1, many));
        }
        due.is("P38 thirty still", x.perform(0), 30);
    }

    /** P38: A TRAY is a row of so many 0s, whatever it was before. */
    private static void rowOfNoughts() {
        RainWishes x = new RainWishes();
        Due.put(x, 0, 3, 5, 6, 7, 8, 9, 10);
        due.is("P36 their sum", x.holding(0, 1, 1), 45);
        x.tray(0, 3, 6);
        due.is("P36 noughts of the same sort", x.holding(0, 1, 1), 0);
        Due.put(x, 0, 0, 5, 6, 7, 8, 9, 10);
        x.tray(0, 2, 2);
        x.tray(0, 2, 6);
        due.is("P36 noughts after a shorter one", x.holding(0, 1, 1), 0);
        Due.put(x, 1, 0, 9, 9);
        Due.put(x, 0, 0, 4, 4);
        x.tray(0, 0, 3);
        due.is("P36 another tray stays", x.holding(1, 1, 1), 18);
    }

    /** P39: IndexOutOfBoundsException: it has no such place. */
    private static void noSuchPlace() {
        RainWishes x = new RainWishes();
        for (int many : new int[] {0, 1, 2, 29, 30}) {
            x.tray(2, 0, many);
            for (int place = 0; place < many; place++) {
                due.is("P39 place " + place, x.write(2, place, place), place);
            }
            for (int place : new int[] {many, many + 1, 30, 31, 100, -1, Integer.MIN_VALUE, Integer.MAX_VALUE}) {
                due.fails("P39 place " + place + " of " + many, NO_PLACE, () -> x.write(2, place, 0));
            }
        }
    }

    private static void cut(RainWishes x, int sort, long v, long want) {
        due.is("P39 " + v + " in sort " + sort, x.write(sort, 0, v), want);
    }

    /** numbers of 8 bits (sort 0), 16 (1), 32 (2), 64 (3). P39: cut to its sort. */
    private static void cutToSort() {
        RainWishes x = new RainWishes();
        for (int sort = 0; sort < 4; sort++) {
            x.tray(sort, sort, 1);
            int bits = 8 << sort;
            long most = -1L >>> 65 - bits;
            cut(x, sort, 0, 0);
            cut(x, sort, -1, -1);
            cut(x, sort, most, most);
            cut(x, sort, -most, -most);
            cut(x, sort, -most - 1, -most - 1);
            cut(x, sort, most + 1, -most - 1);
            cut(x, sort, -most - 2, most);
            cut(x, sort, 2 * most, -2);
            cut(x, sort, 2 * most + 1, -1);
            cut(x, sort, 2 * most + 2, 0);
            cut(x, sort, 2 * most + 3, 1);
            cut(x, sort, Long.MAX_VALUE, sort == 3 ? Long.MAX_VALUE : -1);
            cut(x, sort, Long.MIN_VALUE, sort == 3 ? Long.MIN_VALUE : 0);
        }
        cut(x, 0, 0x1234567890abcd85L, (byte) 0x85);
        cut(x, 1, 0x1234567890abcd85L, (short) 0xcd85);
        cut(x, 2, 0x1234567890abcd85L, 0x90abcd85);
        cut(x, 3, 0x1234567890abcd85L, 0x1234567890abcd85L);
    }

    /** P39: A number comes to a place of a TRAY, cut to its sort: as it is there. */
    private static void asItIsThere() {
        RainWishes x = Due.under("sky 2 6;clouds 6;");
        for (int sort = 0; sort < 4; sort++) {
            x.tray(0, sort, 1);
            x.write(0, 0, (1L << (8 << sort) - 1 << 1) + 9);
            due.is("P36 as it is there", x.holding(0, 1, 1), 9);
            x.write(0, 0, 1L << (8 << sort) - 1);
            due.is("P33 below 0 as it is there", x.judge(0, 1), 1);
        }
        Due.put(x, 0, 0, 1, 2, 3);
        x.write(0, 1, 20);
        due.is("P36 only that place", x.holding(0, 1, 1), 24);
        due.is("P37 only that place", x.grants(0, 1, 1), 1);
    }

    /** Each place of a tray of at most six small plans, read by its weight in all. */
    private static void places(RainWishes x, int tray, long... wants) {
        for (int place = 0; place < wants.length; place++) {
            long before = x.holding(tray, 1, 1);
            x.write(tray, place, 0);
            due.is("P40 place " + place, before - x.holding(tray, 1, 1), wants[place]);
        }
    }

    /** P40: PLANS that can be come into a TRAY, the least first, as many as it has places: how many. */
    private static void pourAsManyPlaces() {
        RainWishes x = Due.under("sky 1 4;clouds 2;wish by 0 must:wet 0 1=1;");
        long[] plans = {2, 3, 6, 10};
        for (int many = 0; many <= 6; many++) {
            x.tray(0, 0, many);
            for (int place = 0; place < many; place++) {
                x.write(0, place, 77);
            }
            due.is("P40 into " + many + " places", x.pour(0), Math.min(many, 4));
            if (many > 0) {
                long[] wants = new long[many];
                for (int place = 0; place < many; place++) {
                    wants[place] = place < 4 ? plans[place] : 77;
                }
                places(x, 0, wants);
            }
        }
    }

    /** P40: as many as it has places: one plan, thirty of them, one less and one more than thirty. */
    private static void pourAsManyPlans() {
        RainWishes one = Due.under("sky 1 4;clouds 0;");
        one.tray(3, 0, 30);
        due.is("P40 one plan", one.pour(3), 1);
        int[] cells = {28, 29, 30, 31, 32};
        for (int want : cells) {
            RainWishes x = Due.under("sky 2 3;clouds 6;wish by 0 must:" + lessThan(want) + ";");
            due.is("P10 so many plans", x.plans(), want);
            x.tray(0, 0, 30);
            due.is("P40 so many", x.pour(0), Math.min(30, want));
            due.is("P33 each of them can be", x.judge(0, 0), -1);
        }
    }

    /** A truth that holds for plans of six cells below a number. */
    private static String lessThan(int most) {
        return "wet 0 0+2*wet 0 1+4*wet 0 2+8*wet 1 0+16*wet 1 1+32*wet 1 2<" + most;
    }

    /** P40: a plan that is too large for the sort is cut, as each number is. */
    private static void pourCut() {
        RainWishes x = Due.under("sky 2 4;clouds 1;");
        x.tray(0, 0, 9);
        due.is("P40 nine", x.pour(0), 9);
        due.is("P33 128 is below 0 in 8 bits", x.judge(0, 0), 8);
        for (int sort = 1; sort < 4; sort++) {
            x.tray(0, sort, 9);
            due.is("P40 nine in sort " + sort, x.pour(0), 9);
            due.is("P33 all nine can be", x.judge(0, 0), -1);
        }
    }

    /** P40: none can be, no places, without a sky. */
    private static void pourNone() {
        RainWishes x = Due.under("sky 1 2;wish by 0 must:1=2;");
        Due.put(x, 0, 0, 7, 8);
        due.is("P40 none can be", x.pour(0), 0);
        places(x, 0, 7, 8);
        RainWishes none = new RainWishes();
        Due.put(none, 0, 0, 7, 8);
        due.is("P40 without a sky", none.pour(0), 1);
        places(none, 0, 0, 8);
        none.tray(1, 3, 0);
        due.is("P40 no places", none.pour(1), 0);
    }

    /** P41, P42: NoSuchElementException: no such one. */
    private static void noSuchImage() {
        RainWishes x = new RainWishes();
        for (int i : new int[] {3, 4, 10, -1, Integer.MIN_VALUE, Integer.MAX_VALUE}) {
            due.fails("P41 image(" + i + ")", NO_SUCH, () -> x.image(i));
            due.fails("P42 restore(" + i + ")", NO_SUCH, () -> x.restore(i));
        }
    }

    /** IMAGES 0 to 2 (none at first). P42: IllegalStateException: none was made. */
    private static void noneWasMade() {
        RainWishes x = Due.under("sky 1 1;");
        for (int i = 0; i < 3; i++) {
            for (int other = i; other < 3; other++) {
                int none = other;
                due.fails("P42 none was made: " + other, STATE, () -> x.restore(none));
            }
            x.image(i);
            x.restore(i);
            due.is("P42 all is as it was", x.count(1), 1);
        }
        Due.tell(x, "sky 2 1;");
        for (int i = 0; i < 3; i++) {
            x.restore(i);
            due.is("P42 it stays over a new sky", x.count(1), 1);
        }
    }

    /** IMAGES: all but the tape, the FAULT and TRAYS, as it was. */
    private static void allButTapeFaultTrays() {
        RainWishes x = Due.under("sky 2 2;clouds 1;wind 1;wish by 3 weight 7 must:all=2;wish by 1:all=0;");
        Due.tell(x, "sky 1 1;!");
        Due.put(x, 0, 0, 5);
        Due.feed(x, "sky 1 2;");
        x.night(1);
        x.image(1);
        Due.tell(x, "");
        Due.tell(x, "sky 1 3;wish by 0:1=1;");
        Due.tell(x, "sky 9");
        Due.put(x, 0, 3, 8, 8);
        x.tray(1, 0, 1);
        Due.feed(x, "sky 2 3;" + " ".repeat(15));
        x.thank(2, 9);
        x.restore(1);
        int[] counts = {5, 2, 2, 1, 1, 2, 1, 7, 1, 40};
        for (int what = 0; what < counts.length; what++) {
            due.is("P42 count(" + what + ")", x.count(what), counts[what]);
        }
        due.is("P42 the fault stays", x.fault(0), 3);
        due.is("P42 its place stays", x.fault(1), 4);
        due.is("P42 a tray stays", x.holding(0, 1, 1), 16);
        due.is("P42 one that was missing stays", x.write(1, 0, 3), 3);
        due.is("P42 the wind is as it was", x.weather(1), 9);
        due.is("P42 wishes are as they were", x.wish(0, 5), 6);
        due.is("P42 by whom", x.wish(0, 0), 3);
        due.is("P42 its weight", x.wish(0, 1), 7);
        due.is("P42 a must", x.wish(0, 2), 1);
        due.is("P42 granted", x.wish(0, 3), 0);
        due.is("P42 an age", x.wish(1, 4), 1);
        due.is("P42 the deed is undone", x.undo(1), 0);
        due.is("P42 open then", x.count(6), 2);
        due.is("P42 the tape stays", x.sky(8), 1);
        due.is("P42 told from it", x.count(2), 3);
    }

    /** P41: An IMAGE is made: of a new object, too. */
    private static void imageOfTheEmpty() {
        RainWishes x = new RainWishes();
        x.image(0);
        Due.tell(x, "sky 2 2;clouds 6;wind 2;wish by 0 must:all=1;");
        x.night(1);
        due.is("P10 plans", x.plans(), 16);
        x.restore(0);
        int[] counts = {0, 0, 0, 3, 0, 0, 0, 0, 0, 0};
        for (int what = 0; what < counts.length; what++) {
            due.is("P42 count(" + what + ")", x.count(what), counts[what]);
        }
        due.is("P10 the only plan", x.plans(), 1);
        due.fails("P42 no wishes", NO_SUCH, () -> x.wish(0, 0));
        due.fails("P42 no deeds", BAD, () -> x.undo(1));
        due.fails("P42 no parishes", STATE, () -> x.season(1, 1));
    }

    /** P42: All is as in an IMAGE: ten wishes, a text of 900 bytes, ten deeds of more. */
    private static void imageOfTheFull() {
        StringBuilder text = new StringBuilder("sky 2 6;clouds 6;wind 3;");
        for (int k = 0; k < 10; k++) {
            text.append("wish by ").append(k % 6).append(" weight ").append(9 - k % 9).append(":wet ").append(k % 2)
                    .append(' ').append(k % 6).append("+0".repeat(28)).append("=1;");
        }
        RainWishes x = Due.under(text.toString());
        for (int k = 1; k <= 13; k++) {
            x.thank(k % 6, k);
        }
        x.image(2);
        Due.tell(x, "sky 1 1;wish by 0:((((((1))))))=2;");
        x.thank(0, 99);
        x.restore(2);
        due.is("P43 wishes", x.count(5), 10);
        for (int k = 0; k < 10; k++) {
            due.is("P5 by whom", x.wish(k, 0), k % 6);
            due.is("P5 weight", x.wish(k, 1), 9 - k % 9);
            due.is("P5 weathers", x.wish(k, 5), 2048);
            due.holds("P7 holds", x.holds(k, 1 << 6 * (k % 2) + k % 6));
        }
        due.is("P43 dues", x.count(7), -91);
        due.is("P32 ten deeds", x.undo(10), 0);
        due.is("P43 the first three are forgotten", x.count(7), -6);
    }

    /** P41: the three are apart; one that is made anew is as it is now. */
    private static void imagesApart() {
        RainWishes x = Due.under("sky 1 2;wish by 0:1=2;");
        for (int i = 0; i < 3; i++) {
            x.night(0);
            x.image(i);
        }
        for (int i = 2; i >= 0; i--) {
            x.restore(i);
            due.is("P42 its age in image " + i, x.wish(0, 4), i + 1);
        }
        x.image(1);
        x.restore(2);
        due.is("P42 image 2", x.wish(0, 4), 3);
        x.restore(1);
        due.is("P42 image 1 made anew", x.wish(0, 4), 1);
        x.night(0);
        x.thank(0, 1);
        x.withdraw(0);
        x.restore(1);
        due.is("P42 deeds don't change it", x.wish(0, 4), 1);
        due.is("P42 nor thanks", x.owes(0), 0);
        due.is("P42 nor what is open", x.count(6), 1);
        due.is("P42 nor the deeds that are kept", x.undo(1), 0);
        due.is("P42 undone", x.wish(0, 4), 0);
        x.restore(1);
        due.is("P42 undoing doesn't change it", x.undo(1), 0);
    }

    /** P42: ages and dues as they were, and those before each deed. */
    private static void agesAndDuesInImages() {
        RainWishes x = Due.under("sky 1 2;wish by 0 weight 2:all=1;wish by 1 weight 3:1=2;wish by 5 weight 9:all=2;");
        x.night(0);
        x.night(1);
        x.night(3);
        x.image(0);
        Due.tell(x, "sky 1 2;wish by 0:all=1;wish by 1:1=2;wish by 5:all=2;");
        x.thank(1, 50);
        x.restore(0);
        int[] ages = {1, 3, 2};
        for (int i = 0; i < 3; i++) {
            due.is("P42 ages", x.wish(i, 4), ages[i]);
        }
        int[] owes = {2, 0, 0, 0, 0, 9};
        for (int person = 0; person < 6; person++) {
            due.is("P42 owes", x.owes(person), owes[person]);
        }
        x.undo(1);
        due.is("P42 owed before the third night", x.count(7), 2);
        due.is("P42 of that age before it", x.wish(2, 4), 2);
        x.undo(1);
        due.is("P42 owed before the second", x.count(7), 0);
        due.is("P42 of that age before it", x.wish(0, 4), 1);
    }

    /** P43: NONE for others. */
    private static void countOthers() {
        RainWishes x = Due.under("sky 2 3;");
        for (int what : new int[] {-1, 10, 11, 100, Integer.MIN_VALUE, Integer.MAX_VALUE}) {
            due.is("P43 count(" + what + ")", x.count(what), -1);
            due.is("P43 of a new object, count(" + what + ")", new RainWishes().count(what), -1);
        }
    }

    /** P43: each of them, the least and the most that it can be. */
    private static void countEdges() {
        RainWishes x = new RainWishes();
        int[] least = {0, 0, 0, 3, 0, 0, 0, 0, 0, 0};
        for (int what = 0; what < 10; what++) {
            due.is("P43 of a new object, count(" + what + ")", x.count(what), least[what]);
        }
        StringBuilder text = new StringBuilder("sky 4 3;clouds 6;wind 3;");
        for (int k = 0; k < 10; k++) {
            text.append("wish by 5 weight 9:1=1;");
        }
        Due.tell(x, text.toString());
        due.is("P27 all of it", x.night(0), 90);
        for (int k = 0; k < 10; k++) {
            x.again(k);
        }
        for (int k = 0; k < 46; k++) {
            x.feed(0, 0, 0, 0, 0);
        }
        int[] most = {13, 4, 3, 6, 3, 10, 10, 90, 10, 900};
        for (int what = 0; what < 10; what++) {
            due.is("P43 count(" + what + ")", x.count(what), most[what]);
        }
    }
}
