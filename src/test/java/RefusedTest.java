import java.util.NoSuchElementException;
import java.util.function.Consumer;
import java.util.function.Supplier;

/**
 * A call that throws changes nothing; nor does one that answers that it changed nothing: each such call is
 * made on an object, and all that it tells then is held against a twin that was not asked. And: of several
 * throws of a call that one comes that is told first.
 */
public final class RefusedTest {
    private static final Class<IllegalArgumentException> BAD = IllegalArgumentException.class;
    private static final Class<IllegalStateException> STATE = IllegalStateException.class;
    private static final Class<NoSuchElementException> NO_SUCH = NoSuchElementException.class;
    private static final Class<IndexOutOfBoundsException> NO_PLACE = IndexOutOfBoundsException.class;
    private static final int[] OUT = {-1, 99, Integer.MIN_VALUE, Integer.MAX_VALUE};
    private static final Due due = new Due("RefusedTest");

    private final String name;
    private final Supplier<RainWishes> made;
    private final String whole;

    private RefusedTest(String name, Supplier<RainWishes> made) {
        this.name = name;
        this.made = made;
        whole = Whole.of(made.get());
    }

    public static void main(String[] args) {
        new RefusedTest("a new object", RainWishes::new).all();
        new RefusedTest("one with something of everything", RefusedTest::something).all();
        new RefusedTest("a full one", RefusedTest::full).all();
        changesAreSeen();
        refusedBySky();
        refusedByTape();
        refusedByOpen();
        toldFirst();
        toldFirstOfTrays();
        due.end();
    }

    /** Wishes open, granted, withdrawn and asked again, deeds, dues, a fault, images 0 and 2, trays 0 to 2, a tape. */
    private static RainWishes something() {
        RainWishes x = Due.under("sky 1 2;clouds 1;wish by 2 weight 6:all=1;");
        x.night(0);
        x.image(2);
        Due.tell(x, "sky 2 3;clouds 2;wind 1;wish by 0 weight 3:wet 0 0=1;wish by 1 weight 2:all=0;"
                + "wish by 0:on 2>0 and of 1<2;wish by 5 weight 4 must:all<4;");
        x.night(1);
        x.thank(4, 7);
        x.image(0);
        x.withdraw(1);
        x.night(4);
        x.again(0);
        Due.tell(x, "sky 2 3;wish by 7:1=1;");
        Due.feed(x, "sky 1 5;wish by 3:all=5;");
        Due.put(x, 0, 0, 1, 0, 3);
        Due.put(x, 1, 1, 5, 60, 7, 8, 99, 10);
        Due.put(x, 2, 3, 7, 1L << 40);
        return x;
    }

    /** Ten wishes, ten deeds of more, three images, trays of thirty places, a full tape. */
    private static RainWishes full() {
        StringBuilder text = new StringBuilder("sky 2 3;clouds 3;wind 2;");
        for (int k = 0; k < 10; k++) {
            text.append("wish by ").append(k % 6).append(" weight ").append(k % 9 + 1).append(":wet ").append(k % 2)
                    .append(' ').append(k % 3).append("=1;");
        }
        RainWishes x = Due.under(text.toString());
        for (int k = 0; k < 12; k++) {
            x.thank(k % 6, k + 1);
            if (k % 5 == 0) {
                x.image(k / 5);
            }
        }
        x.night(1);
        Due.feed(x, "sky 1 6;" + " ".repeat(892));
        for (int tray = 0; tray < 4; tray++) {
            x.tray(tray, tray, 30);
            x.write(tray, 29, 30);
        }
        return x;
    }

    private RainWishes fresh() {
        return made.get();
    }

    private void unchanged(String call, RainWishes x) {
        due.holds(name + ": " + call + " changes nothing", Whole.of(x).equals(whole));
    }

    private void refused(String call, Class<? extends RuntimeException> want, Consumer<RainWishes> asked) {
        RainWishes x = fresh();
        due.fails(name + ": " + call, want, () -> asked.accept(x));
        unchanged(call, x);
    }

    private void all() {
        theSky();
        wishesAndPlans();
        rules();
        trayNumbers();
        deeds();
        traysAndImages();
        asking();
    }

    private void theSky() {
        int on = fresh().count(9);
        for (int n : new int[] {-1, on + 1, 901, Integer.MIN_VALUE, Integer.MAX_VALUE}) {
            refused("sky(" + n + ")", BAD, x -> x.sky(n));
        }
    }

    private void wishesAndPlans() {
        int wishes = fresh().count(5);
        for (int i : new int[] {-1, wishes, wishes + 1, 10, Integer.MAX_VALUE}) {
            refused("wish", NO_SUCH, x -> x.wish(i, 0));
            refused("holds", NO_SUCH, x -> x.holds(i, 0));
            refused("foes", NO_SUCH, x -> x.foes(i));
            refused("hearts", NO_SUCH, x -> x.hearts(i, 0));
            refused("follows", NO_SUCH, x -> x.follows(i));
            refused("withdraw", NO_SUCH, x -> x.withdraw(i));
            refused("again", NO_SUCH, x -> x.again(i));
        }
        for (int out : OUT) {
            refused("weather", BAD, x -> x.weather(out));
            refused("granted", BAD, x -> x.granted(out));
            refused("expected", BAD, x -> x.expected(out, 50));
            refused("expected", BAD, x -> x.expected(0, out == 99 ? 101 : out));
            refused("bestChance", BAD, x -> x.bestChance(out == 99 ? 101 : out));
            refused("together", BAD, x -> x.together(out == 99 ? 1024 : out));
            refused("quarrel", BAD, x -> x.quarrel(out == 99 ? 1024 : out));
            refused("sure", BAD, x -> x.sure(out == 99 ? 1024 : out, true));
            refused("most", BAD, x -> x.most(out));
        }
    }

    private void rules() {
        for (int out : OUT) {
            refused("served", BAD, x -> x.served(out));
            refused("share", BAD, x -> x.share(out, 0));
            refused("share", BAD, x -> x.share(0, out));
            refused("gains", BAD, x -> x.gains(out, 0, 0));
            refused("gains", BAD, x -> x.gains(0, out, 0));
            refused("gains", BAD, x -> x.gains(0, 0, out));
            refused("owes", BAD, x -> x.owes(out));
            refused("thank", BAD, x -> x.thank(out, 1));
            refused("thank", BAD, x -> x.thank(0, out == 99 ? 100 : out));
        }
        refused("thank", BAD, x -> x.thank(0, 0));
    }

    private void trayNumbers() {
        for (int tray : new int[] {-1, 4, Integer.MIN_VALUE, Integer.MAX_VALUE}) {
            refused("wants", NO_SUCH, x -> x.wants(tray, 0));
            refused("readings", NO_SUCH, x -> x.readings(tray, 0));
            refused("judge", NO_SUCH, x -> x.judge(tray, 0));
            refused("perform", NO_SUCH, x -> x.perform(tray));
            refused("holding", NO_SUCH, x -> x.holding(tray, 1, 1));
            refused("grants", NO_SUCH, x -> x.grants(tray, 1, 1));
            refused("write", NO_SUCH, x -> x.write(tray, 0, 1));
            refused("pour", NO_SUCH, x -> x.pour(tray));
            refused("tray", NO_SUCH, x -> x.tray(tray, 0, 1));
        }
    }

    private void deeds() {
        int most = fresh().count(8);
        for (int n : new int[] {-1, 0, most + 1, 11, Integer.MIN_VALUE, Integer.MAX_VALUE}) {
            refused("undo(" + n + ")", BAD, x -> x.undo(n));
        }
        for (int times : new int[] {-1, 0, 31, Integer.MIN_VALUE, Integer.MAX_VALUE}) {
            refused("season", BAD, x -> x.season(1, times));
        }
        for (int plan : new int[] {-1, 64, 4096, Integer.MIN_VALUE, Integer.MAX_VALUE}) {
            RainWishes x = fresh();
            due.is(name + ": night(" + plan + ")", x.night(plan), -1);
            unchanged("night", x);
        }
    }

    private void traysAndImages() {
        for (int sort : new int[] {-1, 4, Integer.MAX_VALUE}) {
            refused("tray, sort", BAD, x -> x.tray(0, sort, 1));
        }
        for (int many : new int[] {-1, 31, Integer.MIN_VALUE, Integer.MAX_VALUE}) {
            refused("tray, many", BAD, x -> x.tray(0, 0, many));
        }
        for (int i : new int[] {-1, 3, Integer.MIN_VALUE, Integer.MAX_VALUE}) {
            refused("image", NO_SUCH, x -> x.image(i));
            refused("restore", NO_SUCH, x -> x.restore(i));
        }
    }

    /** Calls that only ask change nothing either. */
    private void asking() {
        RainWishes x = fresh();
        int open = 0;
        for (int i = 0; i < x.count(5); i++) {
            open |= x.wish(i, 3) << i;
            x.holds(i, 0);
            if (x.wish(i, 3) == 1) {
                x.foes(i);
                x.hearts(i, 1);
                x.follows(i);
            }
        }
        x.together(open);
        x.quarrel(open);
        x.sure(open, true);
        x.expected(0, 50);
        x.bestChance(50);
        for (int rule = 0; rule < 4; rule++) {
            x.served(rule);
            x.share(0, rule);
            x.gains(0, rule, 1);
        }
        x.bestRule();
        x.fault(2);
        x.count(-1);
        unchanged("asking", x);
    }

    /** The twins would tell: each call that changes something is seen. */
    private static void changesAreSeen() {
        RefusedTest twins = new RefusedTest("one with something of everything", RefusedTest::something);
        twins.changed("feed", x -> x.feed(0, 0, 0, 0, 0));
        twins.changed("sky", x -> x.sky(8));
        twins.changed("night", x -> x.night(0));
        twins.changed("thank", x -> x.thank(3, 1));
        twins.changed("withdraw", x -> x.withdraw(0));
        twins.changed("again", x -> x.again(1));
        twins.changed("undo", x -> x.undo(1));
        twins.changed("perform", x -> x.perform(0));
        twins.changed("season", x -> x.season(1, 1));
        twins.changed("tray", x -> x.tray(3, 0, 0));
        twins.changed("tray, its sort", x -> Due.put(x, 0, 1, 1, 0, 3));
        twins.changed("tray, its places", x -> Due.put(x, 0, 0, 1, 0, 3, 0));
        twins.changed("write", x -> x.write(1, 3, 9));
        twins.changed("pour", x -> x.pour(1));
        twins.changed("image", x -> x.image(1));
        twins.changed("image, made anew", x -> x.image(0));
        twins.changed("restore", x -> x.restore(0));
        due.holds("twins are told alike", Whole.of(something()).equals(Whole.of(something())));
    }

    private void changed(String call, Consumer<RainWishes> asked) {
        RainWishes x = fresh();
        asked.accept(x);
        due.holds(name + ": " + call + " changes something", !Whole.of(x).equals(whole));
    }

    /** P3: -10 less the FAULT (all else stays): all but the tape and the fault itself. */
    private static void refusedBySky() {
        String[] texts = {
            "", "?", "sky", "sky 9 1;", "sky 1 1;wish by 0 weight 9 must:all=1;wish by 9", "sky 4 3;clouds 6;wind 3;clouds 7;",
            "sky 1 1;" + "wish by 0 must:1=2;".repeat(10) + "wish", "sky 2 2;wish by 1:[[[[[[[1=1"
        };
        for (String text : texts) {
            RainWishes x = something();
            due.is("P3 without a text: the end", x.sky(0), -12);
            String before = behindTheFault(Whole.of(x));
            RainWishes y = something();
            y.sky(0);
            due.holds("P3 a fault", Due.tell(y, text) < -10);
            due.is("P3 the tape is empty", y.count(9), 0);
            due.holds("P3 all else stays: " + text, behindTheFault(Whole.of(y)).equals(before));
        }
    }

    private static String behindTheFault(String whole) {
        return whole.substring(whole.indexOf("tape="));
    }

    /** P2: NONE, and nothing changes. */
    private static void refusedByTape() {
        RefusedTest twins = new RefusedTest("a full one", RefusedTest::full);
        for (int k = 0; k < 3; k++) {
            RainWishes x = twins.fresh();
            due.is("P2 feed", x.feed(0x21212121, -1, 0, k, 0x7fffffff), -1);
            twins.unchanged("feed", x);
        }
    }

    /** Wishes that are or aren't open, nights that can't be, images and trays that aren't there. */
    private static void refusedByOpen() {
        RefusedTest twins = new RefusedTest("one with something of everything", RefusedTest::something);
        for (int not : new int[] {1, 2}) {
            twins.refused("withdraw", STATE, x -> x.withdraw(not));
            twins.refused("foes", BAD, x -> x.foes(not));
            twins.refused("hearts", BAD, x -> x.hearts(not, 0));
            twins.refused("follows", BAD, x -> x.follows(not));
            twins.refused("together", BAD, x -> x.together(1 << not));
            twins.refused("quarrel", BAD, x -> x.quarrel(1 << not));
            twins.refused("sure", BAD, x -> x.sure(1 << not, false));
        }
        twins.refused("again", STATE, x -> x.again(0));
        twins.refused("hearts, another what", BAD, x -> x.hearts(0, 2));
        twins.refused("wish, another what", BAD, x -> x.wish(0, 6));
        twins.refused("holds, other cells", BAD, x -> x.holds(0, 64));
        twins.refused("restore", STATE, x -> x.restore(1));
        twins.refused("expected, five cells", BAD, x -> x.expected(31, 50));
        RainWishes night = twins.fresh();
        due.is("P27 more than clouds", night.night(7), -2);
        twins.unchanged("night", night);
        RainWishes none = twins.fresh();
        due.is("P34 the first can't be", nothingPerformed(none), 0);
        twins.unchanged("perform", none);
        refusedOnTrays(twins);
    }

    private static int nothingPerformed(RainWishes x) {
        x.write(2, 0, 64);
        int made = x.perform(2);
        x.write(2, 0, 7);
        return made;
    }

    private static void refusedOnTrays(RefusedTest twins) {
        twins.refused("wants of a missing tray", STATE, x -> x.wants(3, 0));
        twins.refused("readings of a missing tray", STATE, x -> x.readings(3, 0));
        twins.refused("judge of a missing tray", STATE, x -> x.judge(3, 0));
        twins.refused("perform of a missing tray", STATE, x -> x.perform(3));
        twins.refused("holding of a missing tray", STATE, x -> x.holding(3, 1, 1));
        twins.refused("grants of a missing tray", STATE, x -> x.grants(3, 1, 1));
        twins.refused("write of a missing tray", STATE, x -> x.write(3, 0, 1));
        twins.refused("pour of a missing tray", STATE, x -> x.pour(3));
        for (int place : new int[] {-1, 3, 30, Integer.MIN_VALUE, Integer.MAX_VALUE}) {
            twins.refused("write, no such place", NO_PLACE, x -> x.write(0, place, 1));
        }
        twins.refused("wants, numbers", BAD, x -> x.wants(2, 0));
        twins.refused("wants, another what", BAD, x -> x.wants(0, 2));
        twins.refused("readings, numbers", BAD, x -> x.readings(1, 0));
        twins.refused("readings, another what", BAD, x -> x.readings(0, 4));
        twins.refused("judge, another what", BAD, x -> x.judge(0, 4));
        twins.refused("holding, numbers", BAD, x -> x.holding(2, 1, 1));
        twins.refused("holding, n", BAD, x -> x.holding(0, 7, 1));
        twins.refused("holding, c", BAD, x -> x.holding(0, 1, 7));
        twins.refused("grants, numbers", BAD, x -> x.grants(2, 1, 1));
        twins.refused("grants, n", BAD, x -> x.grants(0, 0, 1));
        twins.refused("grants, c", BAD, x -> x.grants(0, 1, -1));
        twins.refused("tray, sort and many", BAD, x -> x.tray(1, 4, 31));
        RainWishes asked = twins.fresh();
        asked.wants(0, 0);
        asked.readings(0, 3);
        asked.judge(0, 2);
        asked.holding(1, 6, 6);
        asked.grants(1, 6, 6);
        twins.unchanged("asking trays", asked);
    }

    /** Of several throws of a call that one comes that is told first. */
    private static void toldFirst() {
        RainWishes none = new RainWishes();
        RainWishes x = something();
        due.fails("P5 no such wish, another what", NO_SUCH, () -> x.wish(4, 9));
        due.fails("P7 no such wish, other cells", NO_SUCH, () -> x.holds(4, 64));
        due.fails("P16 no such wish, another what", NO_SUCH, () -> x.hearts(4, 9));
        due.fails("P16 not open, another what", BAD, () -> x.hearts(1, 9));
        due.fails("P35 how many times, no parishes", BAD, () -> none.season(1, 0));
        due.fails("P35 how many times, no parishes", BAD, () -> none.season(1, 31));
        due.fails("P35 no parishes", STATE, () -> none.season(1, 30));
        due.fails("P38 no such tray, no such sort", NO_SUCH, () -> none.tray(4, 4, 31));
        due.fails("P39 no such tray, no such place", NO_SUCH, () -> none.write(4, 30, 0));
        due.fails("P39 missing, no such place", STATE, () -> none.write(3, 30, 0));
        due.fails("P42 no such image, none was made", NO_SUCH, () -> none.restore(3));
        due.fails("P42 none was made", STATE, () -> none.restore(2));
    }

    /** Of several throws of a call on a tray. */
    private static void toldFirstOfTrays() {
        RainWishes none = new RainWishes();
        none.tray(1, 0, 0);
        due.fails("P25 no such tray, no parishes", NO_SUCH, () -> none.wants(4, 9));
        due.fails("P25 missing, another what", STATE, () -> none.wants(0, 9));
        due.fails("P25 no parishes, another what, numbers", STATE, () -> none.wants(1, 9));
        due.fails("P26 no such tray, another what", NO_SUCH, () -> none.readings(-1, 9));
        due.fails("P26 missing, another what", STATE, () -> none.readings(0, 9));
        due.fails("P26 numbers, another what", BAD, () -> none.readings(1, 9));
        due.fails("P33 no such tray, another what", NO_SUCH, () -> none.judge(4, 9));
        due.fails("P33 missing, another what", STATE, () -> none.judge(0, 9));
        due.fails("P36 no such tray, n", NO_SUCH, () -> none.holding(4, 9, 9));
        due.fails("P36 missing, n", STATE, () -> none.holding(0, 9, 9));
        due.fails("P36 numbers, n", BAD, () -> none.holding(1, 9, 9));
        due.fails("P37 no such tray, n", NO_SUCH, () -> none.grants(4, 9, 9));
        due.fails("P37 missing, c", STATE, () -> none.grants(0, 1, 9));
        due.fails("P37 numbers, c", BAD, () -> none.grants(1, 1, 9));
    }
}
