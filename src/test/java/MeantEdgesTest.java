import java.util.NoSuchElementException;

/**
 * Each sentence of the document that bounds rules, gains, what was wanted and badly said, and what to hold
 * back: just within, just beyond. The sentence stands above its test.
 */
public final class MeantEdgesTest {
    private static final Class<IllegalArgumentException> BAD = IllegalArgumentException.class;
    private static final Class<IllegalStateException> STATE = IllegalStateException.class;
    private static final Class<NoSuchElementException> NO_SUCH = NoSuchElementException.class;
    private static final int[] FAR = {Integer.MIN_VALUE, -2, -1, 99, Integer.MAX_VALUE};
    private static final Due due = new Due("MeantEdgesTest");

    public static void main(String[] args) {
        noSuchRule();
        noSuchPerson();
        gainsOthers();
        servedByRules();
        cantLast();
        likeOnesByNumber();
        gainsNothing();
        weightAsItIs();
        mustNotGivenUp();
        nineOlder();
        firstForm();
        bestRuleFirst();
        wantsTrays();
        wantsHowMany();
        wantsNumbers();
        wantsOthers();
        wantsNotByThree();
        wantsFirstInOrder();
        readingsHowMany();
        readingsNumbers();
        readingsOthers();
        readingsAlike();
        readingsKindAndSafe();
        holdingHowMany();
        holdingNumbers();
        holdingNights();
        holdingMost();
        leastToGrant();
        due.end();
    }

    private static RainWishes twoPersons() {
        return Due.under("sky 1 2;clouds 1;wish by 0 weight 2:all=0;wish by 0 weight 3:all=1;wish by 5 weight 4:all=1;");
    }

    /** P21 to P23: IllegalArgumentException: no such RULE (0 to 3). */
    private static void noSuchRule() {
        RainWishes x = twoPersons();
        int[] wants = {1, 6, 6, 1};
        for (int rule = 0; rule < 4; rule++) {
            due.is("P21 served(" + rule + ")", x.served(rule), wants[rule]);
        }
        for (int rule : new int[] {-1, 4, 5, Integer.MIN_VALUE, Integer.MAX_VALUE}) {
            due.fails("P21 served(" + rule + ")", BAD, () -> x.served(rule));
            due.fails("P22 share(0, " + rule + ")", BAD, () -> x.share(0, rule));
            due.fails("P23 gains(0, " + rule + ", 0)", BAD, () -> x.gains(0, rule, 0));
        }
    }

    /** P22, P23, P28, P29: IllegalArgumentException: no such PERSON (0 to 5). */
    private static void noSuchPerson() {
        RainWishes x = twoPersons();
        due.is("P22 person 0", x.share(0, 0), 2);
        due.is("P22 person 5", x.share(5, 1), 4);
        due.is("P22 a person without wishes", x.share(3, 1), 0);
        due.is("P23 person 5", x.gains(5, 0, 0), 4);
        due.is("P29 person 5", x.owes(5), 0);
        due.is("P28 person 5", x.thank(5, 1), -1);
        for (int person : new int[] {-1, 6, 7, Integer.MIN_VALUE, Integer.MAX_VALUE}) {
            due.fails("P22 share of " + person, BAD, () -> x.share(person, 0));
            due.fails("P23 gains of " + person, BAD, () -> x.gains(person, 0, 0));
            due.fails("P28 thank " + person, BAD, () -> x.thank(person, 1));
            due.fails("P29 owes " + person, BAD, () -> x.owes(person));
        }
    }

    /** P23: IllegalArgumentException: another what. */
    private static void gainsOthers() {
        RainWishes x = twoPersons();
        due.is("P23 how much", x.gains(5, 0, 0), 4);
        due.is("P23 the form", x.gains(5, 0, 1), 32);
        for (int what : new int[] {-1, 2, 10, Integer.MIN_VALUE, Integer.MAX_VALUE}) {
            due.fails("P23 what " + what, BAD, () -> x.gains(5, 0, what));
            due.fails("P23 nothing gained, what " + what, BAD, () -> x.gains(3, 0, what));
        }
    }

    /** each if it is TOGETHER with those served so far: none, all of ten, the last of them. */
    private static void servedByRules() {
        StringBuilder text = new StringBuilder("sky 1 2;");
        for (int k = 0; k < 10; k++) {
            text.append("wish by ").append(k % 6).append(":all=").append(k == 9 ? 1 : 2).append(";");
        }
        RainWishes x = Due.under(text.toString());
        RainWishes all = Due.under(text.toString().replace("all=2", "all=1"));
        int[] wants = {511, 511, 511, 512};
        for (int rule = 0; rule < 4; rule++) {
            due.is("P21 nine, or the tenth by rule 3: rule " + rule, x.served(rule), wants[rule]);
            due.is("P21 all ten, rule " + rule, all.served(rule), 1023);
            due.is("P21 without a sky", new RainWishes().served(rule), 0);
            due.is("P21 no plan can be", Due.under("sky 1 1;wish by 0 must:1=2;wish by 0:1=1;").served(rule), 0);
        }
        x.withdraw(0);
        due.is("P21 open ones", x.served(0), 510);
    }

    /** 3: those that can be granted by the fewest CELLS alone first (those that can't last). */
    private static void cantLast() {
        RainWishes x = Due.under("sky 2 6;clouds 6;wind 1;wish by 0:1=2;wish by 0:wet 0 0+wet 0 1+wet 0 2+wet 0 3+wet 0 4"
                + "+wet 0 5=6 and all=6;wish by 1:all=5 and wet 0 0=0;wish by 2:all=0;");
        due.is("P21 no cells first", x.served(3), 8);
        x.withdraw(3);
        due.is("P21 three cells by the wind before six", x.served(3), 4);
        x.withdraw(2);
        due.is("P21 that which can't is not served", x.served(3), 0);
        RainWishes last = Due.under("sky 1 6;clouds 6;wish by 0:1=2;wish by 0:all=6;wish by 1:all=5;");
        due.is("P21 five before six", last.served(3), 4);
        last.withdraw(2);
        due.is("P21 six before what can't", last.served(3), 2);
        due.is("P22 six before what can't", last.share(0, 3), 1);
    }

    /** (AGE, then number), (then number). */
    private static void likeOnesByNumber() {
        RainWishes x = Due.under("sky 1 3;clouds 1;wish by 1 weight 4:wet 0 2=1;wish by 1 weight 4:wet 0 1=1;"
                + "wish by 2 weight 4:wet 0 0=1;wish by 2 weight 4:wet 0 0=0 and all=1;");
        for (int rule = 0; rule < 4; rule++) {
            due.is("P21 all alike, rule " + rule, x.served(rule), 1 | 8);
        }
        x.withdraw(0);
        x.night(0);
        x.again(0);
        due.is("P21 the eldest", x.served(0), 2 | 8);
        x.withdraw(1);
        x.withdraw(3);
        due.is("P21 alike by rule 2", x.served(2), 1);
        due.is("P21 the eldest of two", x.served(0), 4);
    }

    /** P23: how much (0: nothing), the form (NONE). */
    private static void gainsNothing() {
        RainWishes x = Due.under("sky 1 1;wish by 0:1=1;wish by 1:1=2;");
        for (int rule = 0; rule < 4; rule++) {
            for (int person = 0; person < 6; person++) {
                due.is("P23 nothing", x.gains(person, rule, 0), 0);
                due.is("P23 no form", x.gains(person, rule, 1), -1);
                due.is("P23 without a sky", new RainWishes().gains(person, rule, 1), -1);
            }
        }
        RainWishes loses = Due.under("sky 1 1;wish by 0 weight 5:all=1;wish by 0:all=0;");
        due.is("P23 otherwise it would lose", loses.gains(0, 0, 0), 0);
        RainWishes gone = twoPersons();
        gone.withdraw(2);
        due.is("P23 a wish that isn't open gains nothing", gone.gains(5, 0, 0), 0);
        due.is("P23 one gains by giving up", gone.gains(0, 0, 1), 10);
        due.is("P23 how much by giving up", gone.gains(0, 0, 0), 1);
    }

    /** if more weight (as it is) of its own WISHES is served; or says it is of weight 9 (20 and the WISH). */
    private static void weightAsItIs() {
        RainWishes x = Due.under("sky 1 1;wish by 0 weight 8:all=0;wish by 1 weight 1:all=1;wish by 2 weight 9:1=1;");
        due.is("P23 9 is before 8", x.gains(1, 1, 1), 21);
        due.is("P23 its weight is 1", x.gains(1, 1, 0), 1);
        due.is("P23 the weightiest gains nothing", x.gains(2, 1, 0), 0);
        RainWishes nine = Due.under("sky 1 1;wish by 0 weight 9:all=0;wish by 1 weight 8:all=1;");
        due.is("P23 9 is not before a 9 of a lower number", nine.gains(1, 1, 0), 0);
        RainWishes before = Due.under("sky 1 1;wish by 1 weight 8:all=1;wish by 0 weight 9:all=0;");
        due.is("P23 but before one of a higher number", before.gains(1, 1, 1), 20);
    }

    /** it gives up one WISH of its (form 10 and the WISH; not one that must be). */
    private static void mustNotGivenUp() {
        String text = "sky 1 2;clouds 1;wish by 0 must:all=1;wish by 0:wet 0 0=1;wish by 0 weight 9 must:all<9;"
                + "wish by 0 weight 7:wet 0 1=1;";
        RainWishes x = Due.under(text);
        due.is("P23 one that needn't be", x.gains(0, 0, 1), 11);
        due.is("P23 how much", x.gains(0, 0, 0), 6);
        String two = "sky 1 1;wish by 0 %s:1=1;wish by 0 weight 6:all=1;wish by 1:all=0;";
        due.is("P23 given up, person 0 has the lower number", Due.under(two.formatted("")).gains(0, 2, 1), 10);
        due.is("P23 a must isn't given up", Due.under(two.formatted("must")).gains(0, 2, 1), -1);
        String third = "sky 1 1;wish by 1:all=0;wish by 0 weight 6:all=1;wish by 0 %s:1=1;wish by 1:1=2;";
        due.is("P23 the third wish is given up", Due.under(third.formatted("")).gains(0, 2, 1), 12);
        due.is("P23 what it is worth is lost", Due.under(third.formatted("")).gains(0, 2, 0), 5);
        due.is("P23 a must as the third", Due.under(third.formatted("must")).gains(0, 2, 1), -1);
    }

    /** or asks one as if it were 9 older (30 and the WISH). */
    private static void nineOlder() {
        aged(8, 30);
        aged(9, 30);
        aged(10, -1);
        RainWishes later = Due.under("sky 1 1;wish by 0:all=0;wish by 1:all=1;");
        due.is("P23 older than one of a lower number", later.gains(1, 0, 1), 31);
        due.is("P23 its age and 9", youngerBy(5).gains(1, 0, 1), 31);
        due.is("P23 9 younger: alike", youngerBy(9).gains(1, 0, 1), -1);
        due.is("P23 8 younger", youngerBy(8).gains(1, 0, 1), 31);
    }

    /** Wish 0 is of age 10, wish 1 younger by so many nights; only one of them can be served. */
    private static RainWishes youngerBy(int nights) {
        RainWishes x = Due.under("sky 1 2;clouds 1;wish by 0:wet 0 0=1;wish by 1:wet 0 1=1;");
        x.withdraw(1);
        for (int k = 0; k < 10; k++) {
            if (k == nights) {
                x.again(1);
            }
            x.night(0);
        }
        due.is("P5 its age", x.wish(1, 4), 10 - nights);
        return x;
    }

    /** Wish 1 is so many nights older than wish 0; at 9 they are alike, and 0 comes first. */
    private static void aged(int nights, int form) {
        RainWishes x = Due.under("sky 1 1;wish by 0 weight 2:all=0;wish by 1:all=1;");
        x.withdraw(0);
        for (int k = 0; k < nights; k++) {
            x.night(0);
        }
        x.again(0);
        due.is("P21 the elder is served", x.served(0), 2);
        due.is("P23 9 older than " + nights, x.gains(0, 0, 1), form);
        due.is("P23 what it gains", x.gains(0, 0, 0), form == -1 ? 0 : 2);
        due.is("P23 nothing is changed by asking", x.wish(0, 4), 0);
    }

    /** the most it gains, the first such form. */
    private static void firstForm() {
        RainWishes x = Due.under("sky 1 2;clouds 2;wish by 1 weight 1:all=0;wish by 0 weight 4:wet 0 0=1;"
                + "wish by 0 weight 4:wet 0 1=1;wish by 0 weight 1:all=0;");
        due.is("P23 by rule 0: both are served then", x.gains(0, 0, 0), 7);
        due.is("P23 the first of two forms", x.gains(0, 0, 1), 31);
        RainWishes forms = Due.under("sky 1 1;wish by 0:all=0;wish by 0 weight 2:all=1;");
        due.is("P23 giving up is before older", forms.gains(0, 0, 1), 10);
        RainWishes weighty = Due.under("sky 1 1;wish by 0 weight 3:all=1 or all=2;wish by 1:1=2;wish by 0 weight 2:all=0;");
        due.is("P23 nothing is gained by less", weighty.gains(0, 1, 0), 0);
        RainWishes more = Due.under("sky 1 3;clouds 1;wish by 1 weight 9:wet 0 0=1;wish by 0 weight 2:wet 0 1=1;"
                + "wish by 0 weight 5:wet 0 2=1;");
        due.is("P23 the most, not the first", more.gains(0, 0, 1), 32);
        due.is("P23 the most", more.gains(0, 0, 0), 5);
    }

    /** P24: The RULE by which the most weight is SERVED, the first. */
    private static void bestRuleFirst() {
        due.is("P24 without a sky", new RainWishes().bestRule(), 0);
        due.is("P24 no plan can be", Due.under("sky 1 1;wish by 0 must:1=2;").bestRule(), 0);
        due.is("P24 1, 2 and 3 alike", Due.under("sky 1 1;wish by 0 weight 2:all=1;wish by 0:1=2;"
                + "wish by 1 weight 5:all=0;").bestRule(), 1);
        due.is("P24 2 and 3 alike", Due.under("sky 1 1;wish by 0 weight 3:all=1;wish by 0:1=2;"
                + "wish by 1 weight 2:all=0;wish by 2 weight 2:all=0;").bestRule(), 2);
    }

    /** NoSuchElementException: no such TRAY (as everywhere); IllegalStateException: it is MISSING (as everywhere). */
    private static void wantsTrays() {
        RainWishes x = Due.under("sky 1 1;");
        for (int tray : new int[] {-1, 4, 5, Integer.MIN_VALUE, Integer.MAX_VALUE}) {
            onTray(x, tray, NO_SUCH);
        }
        for (int tray = 0; tray < 4; tray++) {
            onTray(x, tray, STATE);
            x.tray(tray, 0, 1);
            due.is("P25 tray " + tray, x.wants(tray, 0), 1);
            due.is("P26 tray " + tray, x.readings(tray, 0), 1);
            due.is("P33 tray " + tray, x.judge(tray, 0), -1);
            due.is("P36 tray " + tray, x.holding(tray, 1, 1), 0);
            due.is("P37 tray " + tray, x.grants(tray, 1, 1), 0);
            due.is("P39 tray " + tray, x.write(tray, 0, 0), 0);
            due.is("P34 tray " + tray, x.perform(tray), 1);
            due.is("P40 tray " + tray, x.pour(tray), 1);
        }
    }

    private static void onTray(RainWishes x, int tray, Class<? extends RuntimeException> want) {
        due.fails("P25 wants", want, () -> x.wants(tray, 0));
        due.fails("P26 readings", want, () -> x.readings(tray, 0));
        due.fails("P33 judge", want, () -> x.judge(tray, 0));
        due.fails("P34 perform", want, () -> x.perform(tray));
        due.fails("P36 holding", want, () -> x.holding(tray, 1, 1));
        due.fails("P37 grants", want, () -> x.grants(tray, 1, 1));
        due.fails("P39 write", want, () -> x.write(tray, 0, 0));
        due.fails("P40 pour", want, () -> x.pour(tray));
    }

    /** WANTS by a TRAY (1 to 12 numbers). */
    private static void wantsHowMany() {
        RainWishes x = Due.under("sky 1 2;");
        for (int many = 0; many <= 30; many++) {
            x.tray(2, 0, many);
            if (many >= 1 && many <= 12) {
                due.is("P25 " + many + " numbers", x.wants(2, 0), 1);
            } else {
                due.fails("P25 " + many + " numbers", BAD, () -> x.wants(2, 0));
            }
        }
        RainWishes none = new RainWishes();
        none.tray(0, 0, 1);
        due.fails("P25 no parishes", STATE, () -> none.wants(0, 0));
        Due.tell(none, "sky 1 1;");
        due.is("P25 one parish", none.wants(0, 0), 1);
    }

    /** 2 times a WEATHER, 1 more if it was thanked for; IllegalArgumentException: numbers that are none such. */
    private static void wantsNumbers() {
        for (int cells = 1; cells <= 6; cells++) {
            RainWishes x = Due.under("sky 1 " + cells + ";");
            long last = (2L << cells) - 1;
            Due.put(x, 0, 3, 0, last);
            due.is("P25 the last number of " + cells + " cells", x.wants(0, 0), 1);
            for (long wrong : new long[] {last + 1, last + 2, -1, -2, 1L << 32, 1L << 33 | 1, Long.MIN_VALUE, Long.MAX_VALUE}) {
                for (int place = 0; place < 2; place++) {
                    Due.put(x, 0, 3, 0, 0);
                    x.write(0, place, wrong);
                    due.fails("P25 " + wrong, BAD, () -> x.wants(0, 0));
                }
            }
        }
        RainWishes most = Due.under("sky 3 4;");
        Due.put(most, 1, 1, 8191, 0);
        due.is("P25 the last number of 12 cells", most.wants(1, 1), 12);
        Due.put(most, 1, 1, 8192, 0);
        due.fails("P25 one more", BAD, () -> most.wants(1, 1));
    }

    /** P25: IllegalArgumentException: another what (10 to 12). */
    private static void wantsOthers() {
        RainWishes x = Due.under("sky 1 3;");
        Due.put(x, 0, 0, 15, 2 * 6, 2 * 5, 2 * 3);
        int[] whats = {0, 1, 10, 11, 12};
        int[] wants = {3, 1, 1, 3, 5};
        for (int k = 0; k < 5; k++) {
            due.is("P25 what " + whats[k], x.wants(0, whats[k]), wants[k]);
        }
        for (int what : new int[] {-1, 2, 9, 13, Integer.MIN_VALUE, Integer.MAX_VALUE}) {
            due.fails("P25 what " + what, BAD, () -> x.wants(0, what));
        }
    }

    /** the fewest CELLS (0 to 3); P25: NONE: not by 3, not so many. */
    private static void wantsNotByThree() {
        RainWishes x = Due.under("sky 1 5;");
        Due.put(x, 0, 0, 1, 31, 63);
        wanted(x, 0, 1, -1, -1, -1);
        Due.put(x, 0, 0, 31, 0);
        wanted(x, 1, 4, 1, -1, -1);
        Due.put(x, 0, 0, 2 * 3 + 1, 2 * 1, 2 * 2);
        wanted(x, 2, 1, 1, 3, -1);
        Due.put(x, 0, 0, 2 * 31 + 1, 2 * 30, 2 * 29, 2 * 27);
        wanted(x, 3, 1, 1, 3, 5);
        Due.put(x, 0, 0, 2 * 31 + 1, 2 * 30, 2 * 29, 2 * 27, 2 * 23);
        wanted(x, -1, -1, -1, -1, -1);
        Due.put(x, 0, 0, 2 * 7, 2 * 7 + 1);
        wanted(x, -1, -1, -1, -1, -1);
    }

    private static void wanted(RainWishes x, int cells, int sets, int first, int second, int third) {
        int[] whats = {0, 1, 10, 11, 12};
        int[] wants = {cells, sets, first, second, third};
        for (int k = 0; k < 5; k++) {
            due.is("P25 wants(0, " + whats[k] + ")", x.wants(0, whats[k]), wants[k]);
        }
    }

    /** as numbers: 2 times the CELL, 1 more if WET; of like ones the first by these in order. */
    private static void wantsFirstInOrder() {
        RainWishes x = Due.under("sky 3 4;");
        Due.put(x, 0, 1, 1, 2 * 4095);
        wanted(x, 1, 12, 0, -1, -1);
        Due.put(x, 0, 1, 0, 8191);
        wanted(x, 1, 12, 1, -1, -1);
        Due.put(x, 0, 1, 2 * 2048 + 1, 0);
        wanted(x, 1, 1, 23, -1, -1);
        Due.put(x, 0, 1, 2 * 2047 + 1, 8190);
        wanted(x, 1, 1, 22, -1, -1);
        Due.put(x, 0, 1, 2 * 1 + 1, 2 * 0, 2 * 2049);
        wanted(x, 2, 1, 1, 22, -1);
        Due.put(x, 0, 1, 0, 8190, 2 * 2048, 1 + 2 * 3);
        wanted(x, 2, 10 + 10, 1, 4, -1);
    }

    /** BADLY SAID in a TRAY (1, 3, 5, 7 or 9 numbers); READINGS are all ways to bracket it by twos. */
    private static void readingsHowMany() {
        RainWishes x = Due.under("sky 1 2;");
        int[] ways = {1, 1, 2, 5, 14};
        for (int many = 0; many <= 30; many++) {
            x.tray(3, 0, many);
            if (many % 2 == 1 && many <= 9) {
                due.is("P26 " + many + " numbers", x.readings(3, 0), ways[many / 2]);
                due.is("P26 all alike", x.readings(3, 1), 1);
                due.is("P26 the kindest", x.readings(3, 2), 2);
                due.is("P26 the safest", x.readings(3, 3), 2);
            } else {
                for (int what = 0; what < 4; what++) {
                    int asked = what;
                    due.fails("P26 " + many + " numbers", BAD, () -> x.readings(3, asked));
                }
            }
        }
    }

    /** at even places CELLS told WET or DRY as above, at odd ones 0 (and), 1 (or). */
    private static void readingsNumbers() {
        for (int cells = 1; cells <= 6; cells++) {
            RainWishes x = Due.under("sky 1 " + cells + ";");
            for (int place = 0; place < 9; place++) {
                long last = place % 2 == 1 ? 1 : 2 * cells - 1;
                x.tray(0, 3, 9);
                x.write(0, place, last);
                due.is("P26 the last number", x.readings(0, 0), 14);
                for (long wrong : new long[] {last + 1, -1, 1L << 32, 1L << 32 | 1, Long.MIN_VALUE, Long.MAX_VALUE}) {
                    x.write(0, place, wrong);
                    due.fails("P26 " + wrong + " at " + place, BAD, () -> x.readings(0, 0));
                }
            }
        }
        RainWishes most = Due.under("sky 4 3;");
        Due.put(most, 0, 0, 23, 0, 22);
        due.is("P26 the last cell of 12", most.readings(0, 0), 1);
        RainWishes none = new RainWishes();
        none.tray(0, 0, 1);
        due.fails("P26 no cells", BAD, () -> none.readings(0, 0));
    }

    /** P26: IllegalArgumentException: another what. */
    private static void readingsOthers() {
        RainWishes x = Due.under("sky 1 2;");
        x.tray(0, 0, 3);
        for (int what : new int[] {-1, 4, 10, Integer.MIN_VALUE, Integer.MAX_VALUE}) {
            due.fails("P26 what " + what, BAD, () -> x.readings(0, what));
        }
    }

    /** of which no two are alike; UNLIKE, if they differ in some WEATHER (any set of CELLS). */
    private static void readingsAlike() {
        RainWishes x = Due.under("sky 1 5;clouds 0;");
        Due.put(x, 0, 0, 1, 0, 3, 1, 5, 0, 7, 1, 9);
        due.is("P26 a and b or c and d or e", x.readings(0, 0), 14);
        due.is("P26 unlike in some weather, whatever the clouds are", x.readings(0, 1), unlike());
        Due.put(x, 0, 0, 1, 0, 3, 1, 5);
        due.is("P26 two unlike", x.readings(0, 1), 2);
        Due.put(x, 0, 0, 1, 0, 3, 1, 1);
        due.is("P26 (a and b) or a, a and (b or a): alike", x.readings(0, 1), 1);
        Due.put(x, 0, 0, 1, 0, 3, 1, 0);
        due.is("P26 (a and b) or not a, a and (b or not a)", x.readings(0, 1), 2);
        Due.put(x, 0, 0, 1, 0, 0, 1, 1);
        due.is("P26 a and not a or a: alike", x.readings(0, 1), 1);
        Due.put(x, 0, 0, 9, 0, 7, 0, 5, 0, 3, 0, 1);
        due.is("P26 only and: alike", x.readings(0, 1), 1);
    }

    /** How many of the 14 ways to bracket a and b or c and d or e differ, by their tables of 32 weathers. */
    private static int unlike() {
        int[] cells = {0xaaaaaaaa, 0xcccccccc, 0xf0f0f0f0, 0xff00ff00, 0xffff0000};
        java.util.Set<Integer> tables = new java.util.TreeSet<>(bracketed(cells, 0, 4));
        return tables.size();
    }

    private static java.util.List<Integer> bracketed(int[] cells, int from, int to) {
        java.util.List<Integer> all = new java.util.ArrayList<>();
        if (from == to) {
            all.add(cells[from]);
        }
        for (int cut = from; cut < to; cut++) {
            for (int left : bracketed(cells, from, cut)) {
                for (int right : bracketed(cells, cut + 1, to)) {
                    all.add(cut % 2 == 0 ? left & right : left | right);
                }
            }
        }
        return all;
    }

    /** in the most WEATHERS of PLANS that can be, the SAFEST in the fewest; (each PLAN counted). */
    private static void readingsKindAndSafe() {
        RainWishes x = Due.under("sky 2 2;clouds 4;wind 1;wish by 0 must:1=1;");
        Due.put(x, 0, 0, 7);
        due.is("P26 two plans of one weather count twice: 8 by a cloud, 4 by the wind", x.readings(0, 2), 12);
        Due.put(x, 0, 0, 6);
        due.is("P26 dry", x.readings(0, 2), 4);
        Due.put(x, 0, 0, 1, 1, 3, 0, 5);
        due.is("P26 the kindest", x.readings(0, 2), 10);
        due.is("P26 the safest", x.readings(0, 3), 6);
        Due.put(x, 0, 0, 1, 0, 0);
        due.is("P26 never", x.readings(0, 2), 0);
        Due.put(x, 0, 0, 1, 1, 0);
        due.is("P26 always", x.readings(0, 3), 16);
        RainWishes five = Due.under("sky 1 6;clouds 5;");
        Due.put(five, 0, 0, 1, 0, 3, 0, 5, 0, 7, 0, 11);
        due.is("P26 five wet cells: by the one plan of these", five.readings(0, 2), 1);
        due.is("P26 all readings are alike", five.readings(0, 3), 1);
        Due.put(five, 0, 0, 0, 0, 2, 0, 4, 0, 6, 0, 10);
        due.is("P26 five dry cells: by no cloud, and by one elsewhere", five.readings(0, 2), 2);
        Due.put(five, 0, 0, 0, 1, 2, 1, 4, 1, 6, 1, 10);
        due.is("P26 one of five dry: by all plans but one", five.readings(0, 3), 62);
        RainWishes none = Due.under("sky 1 2;wish by 0 must:1=2;");
        Due.put(none, 0, 0, 1, 1, 0);
        due.is("P26 no plan can be: the kindest", none.readings(0, 2), 0);
        due.is("P26 no plan can be: the safest", none.readings(0, 3), 0);
        due.is("P26 no plan can be: how many", none.readings(0, 0), 1);
    }

    /** HOLDING BACK by a TRAY (1 to 6 weights). */
    private static void holdingHowMany() {
        RainWishes x = new RainWishes();
        for (int many = 0; many <= 30; many++) {
            x.tray(1, 0, many);
            for (int place = 0; place < many; place++) {
                x.write(1, place, 7);
            }
            if (many >= 1 && many <= 6) {
                due.is("P36 " + many + " weights", x.holding(1, 1, 1), 7 * many);
                due.is("P37 " + many + " weights", x.grants(1, 1, 1), 7);
            } else {
                due.fails("P36 " + many + " weights", BAD, () -> x.holding(1, 1, 1));
                due.fails("P37 " + many + " weights", BAD, () -> x.grants(1, 1, 1));
            }
        }
    }

    /** weights 0 to 99; IllegalArgumentException: numbers that are none such. */
    private static void holdingNumbers() {
        RainWishes x = new RainWishes();
        Due.put(x, 1, 3, 0, 99);
        due.is("P36 0 and 99", x.holding(1, 1, 1), 99);
        due.is("P37 0 and 99", x.grants(1, 1, 1), 0);
        for (long wrong : new long[] {100, 101, -1, -99, 1L << 32, 1L << 32 | 5, Long.MIN_VALUE, Long.MAX_VALUE}) {
            for (int place = 0; place < 6; place++) {
                x.tray(1, 3, 6);
                x.write(1, place, wrong);
                due.fails("P36 " + wrong, BAD, () -> x.holding(1, 1, 1));
                due.fails("P37 " + wrong, BAD, () -> x.grants(1, 1, 1));
                due.fails("P37 " + wrong + ", no clouds", BAD, () -> x.grants(1, 1, 0));
            }
        }
    }

    /** n NIGHTS (1 to 6), one of c clouds (0 to 6); IllegalArgumentException: n, c. */
    private static void holdingNights() {
        RainWishes x = new RainWishes();
        Due.put(x, 0, 0, 3);
        for (int n = -1; n <= 8; n++) {
            for (int c = -1; c <= 8; c++) {
                int nights = n;
                int clouds = c;
                if (n >= 1 && n <= 6 && c >= 0 && c <= 6) {
                    due.is("P36 as many as there are of both", x.holding(0, n, c), 3 * Math.min(n, c));
                    due.is("P37 none without clouds", x.grants(0, n, c), c == 0 ? -1 : 3);
                } else {
                    due.fails("P36 n " + n + ", c " + c, BAD, () -> x.holding(0, nights, clouds));
                    due.fails("P37 n " + n + ", c " + c, BAD, () -> x.grants(0, nights, clouds));
                }
            }
        }
        for (int far : FAR) {
            due.fails("P36 n " + far, BAD, () -> x.holding(0, far, 1));
            due.fails("P36 c " + far, BAD, () -> x.holding(0, 1, far));
            due.fails("P37 n " + far, BAD, () -> x.grants(0, far, 1));
            due.fails("P37 c " + far, BAD, () -> x.grants(0, 1, far));
        }
    }

    /** the most weight in all on the average, times how many numbers the TRAY has to the n-th. */
    private static void holdingMost() {
        RainWishes x = new RainWishes();
        Due.put(x, 0, 0, 99, 99, 99, 99, 99, 99);
        long power = 1;
        for (int n = 1; n <= 6; n++) {
            power *= 6;
            for (int c = 0; c <= 6; c++) {
                due.is("P36 the most there is", x.holding(0, n, c), power * 99 * Math.min(n, c));
            }
        }
        Due.put(x, 0, 0, 0, 0, 0, 0, 0, 0);
        due.is("P36 the least there is", x.holding(0, 6, 6), 0);
        Due.put(x, 0, 0, 4, 0);
        due.is("P36 one night: 2 times 2", x.holding(0, 1, 1), 4);
        due.is("P36 two nights: 3 times 4", x.holding(0, 2, 1), 12);
        due.is("P36 three nights: 3.5 times 8", x.holding(0, 3, 1), 28);
        due.is("P36 three nights, two clouds: 5.5 times 8", x.holding(0, 3, 2), 4 * (8 * 3 - 1 * 2) / 2);
    }

    /** LEAST to grant now: by which granting is no worse than holding back; P37: NONE: none is (also without clouds). */
    private static void leastToGrant() {
        RainWishes x = new RainWishes();
        Due.put(x, 0, 0, 5, 3, 1);
        due.is("P37 no night to come: the least", x.grants(0, 1, 1), 1);
        due.is("P37 worth 3 by holding back: alike is no worse", x.grants(0, 2, 1), 3);
        due.is("P37 worth 11/3", x.grants(0, 3, 1), 5);
        due.is("P37 a cloud for each night", x.grants(0, 3, 3), 1);
        due.is("P37 two clouds for three nights", x.grants(0, 3, 2), 3);
        for (int n = 1; n <= 6; n++) {
            due.is("P37 without clouds", x.grants(0, n, 0), -1);
        }
        Due.put(x, 0, 0, 0);
        due.is("P37 of weight 0: no worse", x.grants(0, 6, 1), 0);
        due.is("P37 of weight 0, without clouds", x.grants(0, 6, 0), -1);
        Due.put(x, 0, 0, 0, 0, 99);
        due.is("P37 the only one", x.grants(0, 6, 1), 99);
    }
}
