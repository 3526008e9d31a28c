import java.util.NoSuchElementException;

/** Promises 27 to 35: nights, thanks, dues, changes of mind, undone; told nights and seasons. */
public final class NightsTest {
    private static final Class<IllegalArgumentException> BAD = IllegalArgumentException.class;
    private static final Class<IllegalStateException> STATE = IllegalStateException.class;
    private static final Class<NoSuchElementException> NO_SUCH = NoSuchElementException.class;
    private static final Due due = new Due("NightsTest");

    public static void main(String[] args) {
        night();
        thank();
        owes();
        withdraw();
        again();
        undo();
        undoEach();
        judge();
        perform();
        season();
        due.end();
    }

    private static RainWishes threeWishes() {
        return Due.under("sky 1 3;clouds 2;wish by 0 weight 4:wet 0 0=1;wish by 1 weight 5 must:all<3;"
                + "wish by 0 weight 2:all=0;");
    }

    private static void night() {
        RainWishes x = threeWishes();
        due.is("P27 other cells", x.night(8), -1);
        due.is("P27 below 0", x.night(-2), -1);
        due.is("P27 more than clouds", x.night(7), -2);
        due.is("P27 nothing happens", x.count(8), 0);
        due.is("P27 night(1)", x.night(1), 9);
        due.is("P27 granted: not open", x.wish(0, 3), 0);
        due.is("P27 granted: no older", x.wish(0, 4), 0);
        due.is("P27 open still: older", x.wish(2, 4), 1);
        due.is("P27 0 owes", x.owes(0), 4);
        due.is("P27 1 owes", x.owes(1), 5);
        due.is("P27 granted once", x.night(1), 0);
        due.is("P27 older by each night", x.wish(2, 4), 2);
        due.is("P27 the last", x.night(0), 2);
        due.is("P27 the age it had", x.wish(2, 4), 2);
        due.is("P27 all owe", x.count(7), 11);
        RainWishes must = Due.under("sky 1 2;wish by 0 must:all=1;");
        due.is("P27 a must", must.night(0), -3);
        due.is("P27 kept", must.night(2), 1);
        due.is("P27 and no matter then", must.night(0), 0);
        due.is("P27 without a sky", new RainWishes().night(0), 0);
        due.is("P27 without cells", new RainWishes().night(1), -1);
    }

    private static void thank() {
        RainWishes x = threeWishes();
        x.night(1);
        due.is("P28 thank(0, 3)", x.thank(0, 3), 1);
        due.is("P28 below 0", x.thank(0, 99), -98);
        due.is("P28 a deed", x.count(8), 3);
        due.is("P28 what all owe", x.count(7), -93);
        due.is("P28 the last person", x.thank(5, 1), -1);
        due.fails("P28 person 6", BAD, () -> x.thank(6, 1));
        due.fails("P28 person -1", BAD, () -> x.thank(-1, 1));
        due.fails("P28 n 0", BAD, () -> x.thank(0, 0));
        due.fails("P28 n 100", BAD, () -> x.thank(0, 100));
        due.is("P28 a throw is no deed", x.count(8), 4);
        due.is("P28 without a sky", new RainWishes().thank(2, 7), -7);
    }

    private static void owes() {
        RainWishes x = new RainWishes();
        for (int person = 0; person < 6; person++) {
            due.is("P29 at first", x.owes(person), 0);
        }
        due.fails("P29 person 6", BAD, () -> x.owes(6));
        due.fails("P29 person -1", BAD, () -> x.owes(-1));
        RainWishes y = Due.under("sky 1 1;wish by 2 weight 3:1=1;wish by 2 weight 4:1=1;wish by 5:all=1;");
        y.night(0);
        due.is("P29 of two wishes", y.owes(2), 7);
        due.is("P29 of none", y.owes(5), 0);
    }

    private static void withdraw() {
        RainWishes x = threeWishes();
        x.night(6);
        due.is("P30 withdraw(0)", x.withdraw(0), 1);
        due.is("P30 not open", x.wish(0, 3), 0);
        due.is("P30 its age stays", x.wish(0, 4), 1);
        due.fails("P30 again", STATE, () -> x.withdraw(0));
        due.fails("P30 a granted one", STATE, () -> x.withdraw(1));
        due.fails("P30 no such one", NO_SUCH, () -> x.withdraw(3));
        due.fails("P30 -1", NO_SUCH, () -> x.withdraw(-1));
        due.is("P30 a deed", x.count(8), 2);
        due.is("P30 nobody owes for it", x.owes(0), 0);
    }

    private static void again() {
        RainWishes x = threeWishes();
        due.fails("P31 open", STATE, () -> x.again(0));
        due.fails("P31 no such one", NO_SUCH, () -> x.again(3));
        due.fails("P31 -1", NO_SUCH, () -> x.again(-1));
        x.night(6);
        x.withdraw(2);
        due.is("P31 a withdrawn one", x.again(2), 2);
        due.is("P31 its age", x.wish(2, 4), 0);
        due.is("P31 a granted one", x.again(1), 3);
        due.is("P31 still owed", x.owes(1), 5);
        due.is("P31 granted again", x.night(1), 9);
        due.is("P31 owed twice", x.owes(1), 10);
        due.is("P31 a deed", x.count(8), 5);
    }

    private static void undo() {
        RainWishes x = new RainWishes();
        due.fails("P32 there are none", BAD, () -> x.undo(1));
        for (int k = 1; k <= 14; k++) {
            x.thank(3, k);
            due.is("P32 ten at most", x.count(8), Math.min(10, k));
        }
        due.fails("P32 undo(0)", BAD, () -> x.undo(0));
        due.fails("P32 undo(-1)", BAD, () -> x.undo(-1));
        due.fails("P32 undo(11)", BAD, () -> x.undo(11));
        due.is("P32 undo(1)", x.undo(1), 9);
        due.is("P32 the latest first", x.owes(3), -91);
        due.fails("P32 not so many", BAD, () -> x.undo(10));
        due.is("P32 undo(4)", x.undo(4), 5);
        due.is("P32 four more", x.owes(3), -45);
        x.thank(3, 5);
        due.is("P32 a new deed", x.count(8), 6);
        due.is("P32 undo(6)", x.undo(6), 0);
        due.is("P32 the eldest are forgotten", x.owes(3), -10);
        due.fails("P32 no more", BAD, () -> x.undo(1));
    }

    private static void undoEach() {
        RainWishes x = threeWishes();
        x.night(4);
        x.thank(1, 2);
        x.withdraw(0);
        x.again(1);
        x.night(0);
        due.is("P32 5 undone", x.undo(1), 4);
        due.is("P32 open as before the night", x.count(6), 2);
        due.is("P32 its age as before", x.wish(2, 4), 1);
        due.is("P32 dues as before", x.owes(0), 0);
        due.is("P32 asked again undone", x.undo(1), 3);
        due.is("P32 the wish", x.wish(1, 3), 0);
        due.is("P32 withdrawn undone", x.undo(1), 2);
        due.is("P32 the wish is open", x.wish(0, 3), 1);
        due.is("P32 its age", x.wish(0, 4), 1);
        due.is("P32 thanks undone", x.undo(1), 1);
        due.is("P32 what 1 owes", x.owes(1), 5);
        due.is("P32 the night undone", x.undo(1), 0);
        due.is("P32 all open", x.count(6), 3);
        due.is("P32 all owe", x.count(7), 0);
        due.is("P32 no ages", x.wish(0, 4) + x.wish(2, 4), 0);
        due.is("P32 plans as at first", x.plans(), 7);
        x.night(3);
        Due.tell(x, "sky 1 1;");
        due.fails("P32 a new sky: no deeds", BAD, () -> x.undo(1));
    }

    private static void judged(RainWishes x, int place, int why, int weight, int open) {
        int[] wants = {place, why, weight, open};
        for (int what = 0; what < 4; what++) {
            due.is("P33 judge(0, " + what + ")", x.judge(0, what), wants[what]);
        }
    }

    private static void judge() {
        RainWishes x = threeWishes();
        x.tray(0, 0, 0);
        judged(x, -1, 0, 0, 3);
        Due.put(x, 0, 0, 0, 1, 2);
        judged(x, -1, 0, 11, 0);
        Due.put(x, 0, 0, 1, 7, 0);
        judged(x, 1, 2, 9, 1);
        Due.put(x, 0, 0, -1, 0);
        judged(x, 0, 1, 0, 3);
        Due.put(x, 0, 3, 1L << 32, 0);
        judged(x, 0, 1, 0, 3);
        Due.put(x, 0, 3, 0, (1L << 32) + 1);
        judged(x, 1, 1, 7, 1);
        due.is("P33 as if they were", x.count(6), 3);
        due.is("P33 no deeds", x.count(8), 0);
        due.fails("P33 tray 4", NO_SUCH, () -> x.judge(4, 9));
        due.fails("P33 missing", STATE, () -> x.judge(1, 9));
        due.fails("P33 what 4", BAD, () -> x.judge(0, 4));
        due.fails("P33 what -1", BAD, () -> x.judge(0, -1));
        RainWishes must = Due.under("sky 1 2;wish by 0 must:all=1;wish by 0:all=0;");
        Due.put(must, 0, 0, 0, 1);
        judged(must, 0, 3, 0, 2);
        Due.put(must, 0, 0, 1, 0);
        judged(must, -1, 0, 2, 0);
    }

    private static void perform() {
        RainWishes x = threeWishes();
        Due.put(x, 0, 0, 2, 1, 7, 0);
        due.is("P34 till one can't be", x.perform(0), 2);
        due.is("P34 deeds", x.count(8), 2);
        due.is("P34 open", x.count(6), 1);
        due.is("P34 owed", x.count(7), 9);
        due.is("P34 ages", x.wish(2, 4), 2);
        due.is("P34 one undone", x.undo(1), 1);
        due.is("P34 open then", x.count(6), 2);
        x.tray(1, 0, 30);
        due.is("P34 thirty", x.perform(1), 30);
        due.is("P34 ten can be undone", x.count(8), 10);
        Due.put(x, 2, 3, 1L << 40);
        due.is("P34 a long one", x.perform(2), 0);
        due.fails("P34 tray 4", NO_SUCH, () -> x.perform(4));
        due.fails("P34 missing", STATE, () -> x.perform(3));
        x.tray(3, 0, 0);
        due.is("P34 none", x.perform(3), 0);
    }

    private static void season() {
        RainWishes x = new RainWishes();
        due.fails("P35 0 times", BAD, () -> x.season(1, 0));
        due.fails("P35 31 times", BAD, () -> x.season(1, 31));
        due.fails("P35 no parishes", STATE, () -> x.season(1, 1));
        sameSeason("sky 2 2;", 1, 6, 12, 7, 3, 10, 4, 12, 7);
        sameSeason("sky 2 3;clouds 2;", -5, 34, 18, 0, 20, 1, 2, 1, 16, 0, 2, 0, 32, 6, 10, 0, 8, 24, 0, 4, 16, 0, 0,
                34, 1, 2, 32, 48, 0, 4, 10);
        sameSeason("sky 3 4;clouds 6;wind 1;", 2147483647, 578, 2304, 1026, 592, 1682, 2260);
        sameSeason("sky 1 3;clouds 0;", 0, 0, 0, 0, 0, 0);
    }

    /** A season leaves what its plans leave, told one behind the other. */
    private static void sameSeason(String sky, int seed, int... plans) {
        String wishes = "wish by 0 weight 3:all=1;wish by 1 weight 2 must:wet 0 0=0;wish by 2:all=2;wish by 3:on 0>1;"
                + "wish by 4 weight 5:wet 0 0=1;wish by 5:1=2;";
        RainWishes x = Due.under(sky + wishes);
        RainWishes y = Due.under(sky + wishes);
        int made = 0;
        for (int plan : plans) {
            made += y.night(plan) >= 0 ? 1 : 0;
        }
        due.is("P35 nights that were", x.season(seed, plans.length), made);
        for (int what = 0; what < 10; what++) {
            due.is("P35 count(" + what + ")", x.count(what), y.count(what));
        }
        for (int i = 0; i < 6; i++) {
            due.is("P35 open", x.wish(i, 3), y.wish(i, 3));
            due.is("P35 ages", x.wish(i, 4), y.wish(i, 4));
            due.is("P35 owes", x.owes(i), y.owes(i));
        }
    }
}
