/**
 * Each sentence of the document that bounds nights, dues, deeds, told nights and seasons: just within, just
 * beyond. The sentence stands above its test. (No such person: MeantEdgesTest; no such wish: PlanEdgesTest.)
 */
public final class DeedEdgesTest {
    private static final Class<IllegalArgumentException> BAD = IllegalArgumentException.class;
    private static final Class<IllegalStateException> STATE = IllegalStateException.class;
    private static final Due due = new Due("DeedEdgesTest");

    public static void main(String[] args) {
        nightEdges();
        grantedOnce();
        oneOlder();
        notOlder();
        thankEdges();
        duesAdded();
        withdrawEdges();
        againEdges();
        tenDeeds();
        eldestForgotten();
        latestFirst();
        undoEdges();
        judgeOthers();
        judgeFirstPlace();
        judgeHuge();
        performTillOne();
        performNone();
        seasonTimes();
        seasonDraws();
        seasonIfItCanBe();
        seasonOnOneCell();
        due.end();
    }

    private static RainWishes three() {
        return Due.under("sky 1 3;clouds 2;wish by 0 weight 4:wet 0 0=1;wish by 1 weight 5 must:all<3;"
                + "wish by 0 weight 2:wet 0 2=1;");
    }

    /** P27: weight that was granted; below 0: less why the PLAN can't be (nothing happens). */
    private static void nightEdges() {
        RainWishes x = Due.under("sky 1 3;clouds 2;wish by 0 weight 9 must:wet 0 0=1;wish by 0:all=2;");
        due.is("P27 3", x.night(2), -3);
        due.is("P27 2", x.night(7), -2);
        due.is("P27 1", x.night(8), -1);
        due.is("P27 nothing happens: deeds", x.count(8), 0);
        due.is("P27 nothing happens: ages", x.wish(1, 4), 0);
        due.is("P27 nothing happens: open", x.count(6), 2);
        due.is("P27 nothing happens: dues", x.count(7), 0);
        due.is("P27 all the clouds", x.night(3), 10);
        due.is("P27 nothing is granted: 0", x.night(0), 0);
        due.is("P27 that is a night, too", x.count(8), 2);
        due.is("P27 without a sky", new RainWishes().night(0), 0);
    }

    /** WISHES it GRANTS are OPEN no more, their PERSONS owe their weight. */
    private static void grantedOnce() {
        RainWishes x = three();
        due.is("P27 two of three", x.night(1), 9);
        due.is("P27 once only", x.night(1), 0);
        due.is("P29 0 owes once", x.owes(0), 4);
        due.is("P29 1 owes once", x.owes(1), 5);
        due.is("P29 nobody else owes", x.count(7), 9);
        due.is("P43 open", x.count(6), 1);
        due.is("P27 the last one", x.night(4), 2);
        due.is("P29 both of 0", x.owes(0), 6);
        due.is("P43 none is open", x.count(6), 0);
        due.is("P27 none is left", x.night(5), 0);
    }

    /** all that are OPEN still are 1 older. */
    private static void oneOlder() {
        RainWishes x = three();
        for (int k = 1; k <= 40; k++) {
            x.night(k % 2 == 0 ? 2 : 0);
            due.is("P5 older by each night", x.wish(0, 4), k);
            due.is("P5 the last one, too", x.wish(2, 4), k);
            due.is("P5 not the one that was granted", x.wish(1, 4), 0);
        }
        x.night(1);
        due.is("P5 granted: as old as it was", x.wish(0, 4), 40);
        due.is("P5 open still", x.wish(2, 4), 41);
        due.is("P5 as it was after a night that can't be", x.night(7) + x.wish(2, 4), 41 - 2);
    }

    /** all that are OPEN still: those that aren't are no older. */
    private static void notOlder() {
        RainWishes x = three();
        x.night(0);
        x.withdraw(2);
        x.night(1);
        for (int k = 0; k < 3; k++) {
            x.night(0);
            due.is("P5 granted at once", x.wish(1, 4), 0);
            due.is("P5 granted in the second night", x.wish(0, 4), 1);
            due.is("P5 withdrawn after the first", x.wish(2, 4), 1);
        }
        x.again(2);
        due.is("P5 asked again", x.wish(2, 4), 0);
        x.night(0);
        due.is("P5 older again", x.wish(2, 4), 1);
    }

    /** To THANK: a PERSON owes so much less (below 0, too). P28: n isn't 1 to 99. */
    private static void thankEdges() {
        RainWishes x = three();
        x.night(1);
        due.is("P28 1", x.thank(0, 1), 3);
        due.is("P28 all that it owes", x.thank(0, 3), 0);
        due.is("P28 below 0", x.thank(0, 1), -1);
        due.is("P28 99", x.thank(0, 99), -100);
        due.is("P29 below 0", x.owes(0), -100);
        due.is("P29 of nobody else", x.owes(1), 5);
        due.is("P43 all", x.count(7), -95);
        for (int n : new int[] {0, -1, 100, 101, Integer.MIN_VALUE, Integer.MAX_VALUE}) {
            due.fails("P28 n " + n, BAD, () -> x.thank(0, n));
        }
        due.is("P29 as it was", x.owes(0), -100);
        due.is("P43 deeds as they were", x.count(8), 5);
        RainWishes much = new RainWishes();
        for (int k = 1; k <= 500; k++) {
            due.is("P28 over and over", much.thank(5, 99), -99 * k);
        }
    }

    /** P29: What a PERSON owes: of all its wishes, as often as they were granted. */
    private static void duesAdded() {
        RainWishes x = Due.under("sky 1 1;wish by 5 weight 9:1=1;wish by 0 weight 9:1=1;wish by 5 weight 1:all=1;");
        for (int k = 1; k <= 50; k++) {
            due.is("P27 both", x.night(0), 18);
            due.is("P29 person 5", x.owes(5), 9 * k);
            due.is("P29 person 0", x.owes(0), 9 * k);
            due.is("P43 all", x.count(7), 18 * k);
            x.again(0);
            x.again(1);
        }
        for (int person = 1; person < 5; person++) {
            due.is("P29 nobody else", x.owes(person), 0);
        }
    }

    /** P30: OPEN ones then. IllegalStateException: it isn't OPEN. */
    private static void withdrawEdges() {
        RainWishes x = three();
        x.night(0);
        due.fails("P30 one that was granted", STATE, () -> x.withdraw(1));
        due.is("P30 the last of all", x.withdraw(2), 1);
        due.fails("P30 a second time", STATE, () -> x.withdraw(2));
        due.is("P30 none is open then", x.withdraw(0), 0);
        due.is("P30 the age it had", x.wish(0, 4), 1);
        due.fails("P30 the first a second time", STATE, () -> x.withdraw(0));
        due.is("P30 deeds", x.count(8), 3);
        due.is("P30 nobody owes for it", x.count(7), 5);
    }

    /** P31: OPEN ones then; its AGE 0. IllegalStateException: it is OPEN. */
    private static void againEdges() {
        RainWishes x = three();
        for (int i = 0; i < 3; i++) {
            int wish = i;
            due.fails("P31 it is open", STATE, () -> x.again(wish));
        }
        x.night(0);
        x.withdraw(0);
        x.withdraw(2);
        due.is("P31 one", x.again(2), 1);
        due.is("P31 its age", x.wish(2, 4), 0);
        due.fails("P31 a second time", STATE, () -> x.again(2));
        due.is("P31 one that was granted", x.again(1), 2);
        due.is("P31 all", x.again(0), 3);
        due.is("P31 its age, too", x.wish(0, 4), 0);
        due.is("P31 a must holds again", x.why(7), 2);
        due.is("P31 deeds", x.count(8), 6);
    }

    /** DEEDS: a NIGHT, THANKS, one WITHDRAWN, one asked AGAIN; 10 at most. */
    private static void tenDeeds() {
        RainWishes x = Due.under("sky 1 1;wish by 0:all=1;");
        int[] counts = {1, 2, 3, 4, 5, 6, 7, 8, 9, 10, 10, 10, 10, 10};
        for (int k = 0; k < counts.length; k++) {
            if (k % 4 == 0) {
                x.night(0);
            } else if (k % 4 == 1) {
                x.thank(k % 6, 1);
            } else if (k % 4 == 2) {
                x.withdraw(0);
            } else {
                x.again(0);
            }
            due.is("P43 deeds", x.count(8), counts[k]);
        }
        due.is("P32 all ten", x.undo(10), 0);
        due.is("P43 none is left", x.count(8), 0);
        due.is("P32 the first four are forgotten: its age", x.wish(0, 4), 0);
        due.is("P32 the first four are forgotten: thanks", x.count(7), -1);
        due.is("P32 the first four are forgotten: open", x.wish(0, 3), 1);
    }

    /** 10 at most (eldest are forgotten): after ten, after eleven, after thirty. */
    private static void eldestForgotten() {
        for (int deeds : new int[] {9, 10, 11, 19, 20, 21, 30}) {
            RainWishes x = new RainWishes();
            int sum = 0;
            for (int k = 1; k <= deeds; k++) {
                x.thank(0, k);
                sum += k <= deeds - 10 ? k : 0;
            }
            int left = Math.min(10, deeds);
            due.is("P43 deeds", x.count(8), left);
            due.is("P32 all of them", x.undo(left), 0);
            due.is("P32 what is forgotten stays", x.owes(0), -sum);
            due.fails("P32 no more", BAD, () -> x.undo(1));
        }
    }

    /** each can be UNDONE, the latest first. */
    private static void latestFirst() {
        for (int n = 1; n <= 10; n++) {
            RainWishes x = new RainWishes();
            for (int k = 1; k <= 10; k++) {
                x.thank(k % 6, k);
            }
            due.is("P32 undo(" + n + ")", x.undo(n), 10 - n);
            for (int person = 0; person < 6; person++) {
                int owes = 0;
                for (int k = person; k <= 10 - n; k += 6) {
                    owes -= k;
                }
                due.is("P32 what " + person + " owes then", x.owes(person), owes);
            }
        }
    }

    /** P32: how many still can be. IllegalArgumentException: n isn't 1 to 10, there aren't so many. */
    private static void undoEdges() {
        RainWishes x = three();
        for (int n : new int[] {0, -1, 1, 10, 11, Integer.MIN_VALUE, Integer.MAX_VALUE}) {
            due.fails("P32 there are none: " + n, BAD, () -> x.undo(n));
        }
        x.night(1);
        x.withdraw(2);
        due.fails("P32 three of two", BAD, () -> x.undo(3));
        due.is("P32 as it was", x.wish(2, 3), 0);
        due.is("P32 two of two", x.undo(2), 0);
        due.is("P32 all are open", x.count(6), 3);
        for (int k = 0; k < 12; k++) {
            x.night(0);
        }
        for (int n : new int[] {0, -1, 11, 12, Integer.MIN_VALUE, Integer.MAX_VALUE}) {
            due.fails("P32 of ten: " + n, BAD, () -> x.undo(n));
        }
        due.is("P5 as it was", x.wish(0, 4), 12);
        due.is("P32 ten of ten", x.undo(10), 0);
        due.is("P5 two nights are forgotten", x.wish(0, 4), 2);
    }

    /** P33: IllegalArgumentException: another what. */
    private static void judgeOthers() {
        RainWishes x = three();
        Due.put(x, 0, 0, 1, 7);
        int[] wants = {1, 2, 9, 1};
        for (int what = 0; what < 4; what++) {
            due.is("P33 what " + what, x.judge(0, what), wants[what]);
        }
        for (int what : new int[] {-1, 4, 10, Integer.MIN_VALUE, Integer.MAX_VALUE}) {
            due.fails("P33 what " + what, BAD, () -> x.judge(0, what));
        }
    }

    private static void judged(RainWishes x, int place, int why, int weight, int open) {
        int[] wants = {place, why, weight, open};
        for (int what = 0; what < 4; what++) {
            due.is("P33 judge(0, " + what + ")", x.judge(0, what), wants[what]);
        }
    }

    /** P33: judged as if they were: the first place that can't be (NONE), why (0). */
    private static void judgeFirstPlace() {
        RainWishes x = three();
        x.tray(0, 0, 0);
        judged(x, -1, 0, 0, 3);
        x.tray(0, 0, 30);
        judged(x, -1, 0, 5, 2);
        x.write(0, 29, 7);
        judged(x, 29, 2, 5, 2);
        x.write(0, 28, 8);
        judged(x, 28, 1, 5, 2);
        x.write(0, 0, -1);
        judged(x, 0, 1, 0, 3);
        Due.put(x, 0, 0, 5, 5, 0);
        judged(x, -1, 0, 11, 0);
        Due.put(x, 0, 0, 4, 7, 1);
        judged(x, 1, 2, 7, 1);
        due.is("P33 nothing has happened: open", x.count(6), 3);
        due.is("P33 nothing has happened: deeds", x.count(8), 0);
        due.is("P33 nothing has happened: dues", x.count(7), 0);
        RainWishes must = Due.under("sky 1 2;wish by 0 must:all=1;wish by 0:all=0;");
        Due.put(must, 0, 0, 0, 1);
        judged(must, 0, 3, 0, 2);
        Due.put(must, 0, 0, 1, 0);
        judged(must, -1, 0, 2, 0);
        Due.put(must, 0, 0, 2, 4);
        judged(must, 1, 1, 1, 1);
        RainWishes none = new RainWishes();
        Due.put(none, 0, 0, 0, 1);
        judged(none, 1, 1, 0, 0);
    }

    /** 1 it has others than CELLS: numbers of 64 bits, too. */
    private static void judgeHuge() {
        RainWishes x = three();
        long[] huge = {1L << 32, 1L << 32 | 1, 1L << 63, Long.MAX_VALUE, -1, 8, -8, 1L << 31};
        for (long plan : huge) {
            Due.put(x, 0, 3, 0, plan, 1);
            judged(x, 1, 1, 5, 2);
        }
        x.night(0);
        for (long plan : huge) {
            Due.put(x, 0, 3, plan);
            due.is("P34 it can't be", x.perform(0), 0);
        }
        due.is("P34 nothing has happened", x.count(8), 1);
    }

    /** P34: They are made, till one can't be: how many were. */
    private static void performTillOne() {
        RainWishes x = three();
        Due.put(x, 0, 0, 1, 4, 8, 0);
        due.is("P34 two", x.perform(0), 2);
        due.is("P34 deeds", x.count(8), 2);
        due.is("P34 none is open", x.count(6), 0);
        due.is("P34 what all owe", x.count(7), 11);
        due.is("P34 the second is undone", x.undo(1), 1);
        due.is("P34 one is open", x.count(6), 1);
        x.tray(1, 0, 30);
        due.is("P34 thirty", x.perform(1), 30);
        due.is("P34 ten of them can be undone", x.count(8), 10);
        due.is("P34 its age", x.wish(2, 4), 31);
        due.is("P34 all ten", x.undo(10), 0);
        due.is("P34 its age then", x.wish(2, 4), 21);
    }

    /** P34: none can be, none is there. */
    private static void performNone() {
        RainWishes x = three();
        x.tray(0, 0, 0);
        due.is("P34 no places", x.perform(0), 0);
        Due.put(x, 0, 0, 7, 1);
        due.is("P34 not the first", x.perform(0), 0);
        due.is("P34 nothing has happened", x.count(8), 0);
        due.is("P34 all are open", x.count(6), 3);
        RainWishes none = new RainWishes();
        none.tray(0, 0, 5);
        due.is("P34 without a sky", none.perform(0), 5);
        RainWishes must = Due.under("sky 1 2;wish by 0 must:all=1;");
        Due.put(must, 0, 0, 1, 0);
        due.is("P34 a must is kept and no matter then", must.perform(0), 2);
        due.is("P34 nights back", must.undo(2), 0);
        Due.put(must, 0, 0, 0, 1);
        due.is("P34 a must", must.perform(0), 0);
    }

    /** so many times (1 to 30). P35: IllegalArgumentException: how many times; IllegalStateException: no PARISHES. */
    private static void seasonTimes() {
        RainWishes x = Due.under("sky 1 1;wish by 0:1=2;");
        due.is("P35 once", x.season(5, 1), 1);
        due.is("P5 one older", x.wish(0, 4), 1);
        due.is("P35 thirty times", x.season(5, 30), 30);
        due.is("P5 thirty older", x.wish(0, 4), 31);
        due.is("P43 ten deeds", x.count(8), 10);
        for (int times : new int[] {0, -1, 31, 100, Integer.MIN_VALUE, Integer.MAX_VALUE}) {
            due.fails("P35 times " + times, BAD, () -> x.season(5, times));
            due.fails("P35 no parishes, times " + times, BAD, () -> new RainWishes().season(5, times));
        }
        due.is("P5 as it was", x.wish(0, 4), 31);
        for (int times : new int[] {1, 30}) {
            due.fails("P35 no parishes", STATE, () -> new RainWishes().season(5, times));
        }
    }

    /** a DRAW: x becomes 1103515245 x + 12345 (an int: it wraps around), it is x >>> 16. */
    private static void seasonDraws() {
        int[] seeds = {0, 1, -1, 12345, -12345, Integer.MAX_VALUE, Integer.MIN_VALUE, 0x7fff0000, 1 << 30, 987654321};
        for (int seed : seeds) {
            sameSeason("sky 1 1;clouds 1;", 1, 1, seed, 9);
            sameSeason("sky 2 6;clouds 6;wind 1;", 12, 6, seed, 30);
            sameSeason("sky 1 5;", 5, 3, seed, 30);
            sameSeason("sky 3 3;clouds 2;wind 2;", 9, 2, seed, 17);
            sameSeason("sky 4 3;clouds 0;", 12, 0, seed, 2);
        }
    }

    /** The same season by nights, its draws reckoned by longs. */
    private static void sameSeason(String sky, int cells, int clouds, int seed, int times) {
        String wishes = "wish by 0 weight 3:all=1;wish by 1 weight 2 must:wet 0 0=0;wish by 2:all=2;wish by 3:on 0>1;"
                + "wish by 4 weight 5:wet 0 0=1;wish by 5:all=0;wish by 5 weight 9:all>3;";
        RainWishes x = Due.under(sky + wishes);
        RainWishes y = Due.under(sky + wishes);
        long now = seed & 0xffffffffL;
        int made = 0;
        for (int time = 0; time < times; time++) {
            now = (1103515245L * now + 12345) % (1L << 32);
            long put = (now >> 16) % (clouds + 1);
            int plan = 0;
            for (int k = 0; k < put; k++) {
                now = (1103515245L * now + 12345) % (1L << 32);
                plan |= 1 << (now >> 16) % cells;
            }
            made += y.night(plan) >= 0 ? 1 : 0;
        }
        due.is("P35 " + sky + " by " + seed, x.season(seed, times), made);
        for (int what = 0; what < 10; what++) {
            due.is("P35 count(" + what + ")", x.count(what), y.count(what));
        }
        for (int i = 0; i < 7; i++) {
            due.is("P35 open", x.wish(i, 3), y.wish(i, 3));
            due.is("P35 ages", x.wish(i, 4), y.wish(i, 4));
            due.is("P35 owes", x.owes(i % 6), y.owes(i % 6));
        }
    }

    /** then a NIGHT by that PLAN, if it can be. P35: NIGHTS that were. */
    private static void seasonIfItCanBe() {
        RainWishes never = Due.under("sky 2 3;wish by 0 must:1=2;wish by 1:1=1;");
        due.is("P35 none can be", never.season(7, 30), 0);
        due.is("P43 no deeds", never.count(8), 0);
        due.is("P5 no older", never.wish(1, 4), 0);
        due.is("P43 all are open", never.count(6), 2);
        RainWishes some = Due.under("sky 1 4;clouds 2;wish by 0 must:wet 0 0=1 and all=0 or all=2;wish by 1:1=2;");
        int made = some.season(3, 30);
        due.holds("P35 not all can be", made > 0 && made < 30);
        due.is("P35 as many nights older", some.wish(1, 4), made);
    }

    /** one at CELL DRAW modulo CELLS (one where one is: nothing more). */
    private static void seasonOnOneCell() {
        RainWishes x = Due.under("sky 1 1;clouds 6;wish by 0 must:all=1;wish by 1:1=2;");
        int made = x.season(1, 30);
        due.holds("P35 many clouds on the one cell are one", made > 20);
        due.is("P35 as many nights older", x.wish(1, 4), made);
        due.is("P43 the must is kept", x.count(6), 1);
    }
}
