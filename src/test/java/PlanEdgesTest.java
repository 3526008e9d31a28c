import java.util.NoSuchElementException;

/**
 * Each sentence of the document that bounds wishes, plans, weathers, what is together and what comes
 * by chance: just within, just beyond. The sentence stands above its test.
 */
public final class PlanEdgesTest {
    private static final Class<IllegalArgumentException> BAD = IllegalArgumentException.class;
    private static final Class<NoSuchElementException> NO_SUCH = NoSuchElementException.class;
    private static final int[] FAR = {-1, Integer.MIN_VALUE, Integer.MAX_VALUE, 1 << 30};
    /** No plan can be. */
    private static final String NO_PLAN = "sky 2 2;wish by 0 must:1=2;wish by 1:all=0;wish by 2:all=1;";
    private static final Due due = new Due("PlanEdgesTest");

    public static void main(String[] args) {
        noSuchWish();
        wishOthers();
        anySetOfCells();
        windBlows();
        othersThanCells();
        holdsEdges();
        leastWhy();
        cloudsExactly();
        mustAndOpen();
        mustsOfASkyBefore();
        grantedWhetherOrNot();
        fewestAndMostPlans();
        othersThanOpen();
        ofNoWishes();
        fewestThenLeast();
        quarrelEdges();
        foesEdges();
        mostEdges();
        nightsEdges();
        heartsEdges();
        heartsOfMusts();
        followsEdges();
        sureEdges();
        fourAtMost();
        hundredths();
        mustNoMatter();
        threeAtMost();
        chanceOfLikeOnes();
        due.end();
    }

    private static String tenWishes() {
        StringBuilder text = new StringBuilder("sky 3 4;clouds 2;");
        for (int k = 0; k < 10; k++) {
            text.append("wish by ").append(k % 6).append(" weight ").append(k % 9 + 1).append(":wet ").append(k / 4)
                    .append(' ').append(k % 4).append("=1;");
        }
        return text.toString();
    }

    /** P5 and everywhere: NoSuchElementException: no such WISH. */
    private static void noSuchWish() {
        RainWishes none = new RainWishes();
        noSuch(none, 0);
        RainWishes one = Due.under("sky 1 1;wish by 0:1=1;");
        due.is("P5 the only one", one.wish(0, 1), 1);
        for (int i : new int[] {1, 2, 9, 10, 11}) {
            noSuch(one, i);
        }
        RainWishes ten = Due.under(tenWishes());
        due.is("P5 the tenth", ten.wish(9, 0), 3);
        due.is("P7 the tenth", ten.holds(9, 1 << 9) ? 1 : 0, 1);
        due.is("P13 the tenth", ten.foes(9), 0);
        due.is("P16 the tenth", ten.hearts(9, 0), 8);
        due.is("P17 the tenth", ten.follows(9), 0);
        due.is("P30 the tenth", ten.withdraw(9), 9);
        due.is("P31 the tenth", ten.again(9), 10);
        for (int i : new int[] {10, 11, 31, 32}) {
            noSuch(ten, i);
        }
        for (int i : FAR) {
            noSuch(none, i);
            noSuch(ten, i);
        }
    }

    private static void noSuch(RainWishes x, int i) {
        due.fails("P5 wish " + i, NO_SUCH, () -> x.wish(i, 0));
        due.fails("P7 holds " + i, NO_SUCH, () -> x.holds(i, 0));
        due.fails("P13 foes " + i, NO_SUCH, () -> x.foes(i));
        due.fails("P16 hearts " + i, NO_SUCH, () -> x.hearts(i, 0));
        due.fails("P17 follows " + i, NO_SUCH, () -> x.follows(i));
        due.fails("P30 withdraw " + i, NO_SUCH, () -> x.withdraw(i));
        due.fails("P31 again " + i, NO_SUCH, () -> x.again(i));
    }

    /** P5: IllegalArgumentException: another what. */
    private static void wishOthers() {
        RainWishes x = Due.under("sky 1 2;wish by 5 weight 9 must:all>0;");
        int[] wants = {5, 9, 1, 1, 0, 3};
        for (int what = 0; what < 6; what++) {
            due.is("P5 wish(0, " + what + ")", x.wish(0, what), wants[what]);
        }
        for (int what : new int[] {-1, 6, 7, 10, Integer.MIN_VALUE, Integer.MAX_VALUE}) {
            due.fails("P5 wish(0, " + what + ")", BAD, () -> x.wish(0, what));
        }
        x.night(1);
        due.is("P5 not open is 0", x.wish(0, 3), 0);
    }

    /** P5: in how many WEATHERS (any set of CELLS) it holds: from none to all, whatever clouds and wind are. */
    private static void anySetOfCells() {
        for (int parishes = 1; parishes <= 4; parishes++) {
            for (int days = 1; days <= 6 && parishes * days <= 12; days++) {
                int cells = parishes * days;
                RainWishes x = Due.under("sky " + parishes + " " + days + ";clouds 0;wind 1;wish by 0:1=1;wish by 0:1=2;"
                        + "wish by 0:all=" + cells + ";wish by 0:all=1;wish by 0:all<" + cells + ";");
                due.is("P5 in all", x.wish(0, 5), 1 << cells);
                due.is("P5 in none", x.wish(1, 5), 0);
                due.is("P5 in one", x.wish(2, 5), 1);
                due.is("P5 in as many as cells", x.wish(3, 5), cells);
                due.is("P5 in all but one", x.wish(4, 5), (1 << cells) - 1);
            }
        }
    }

    /** that of the PARISH so many further on, on the next DAY, for each of these (if both are there). */
    private static void windBlows() {
        for (int parishes = 1; parishes <= 4; parishes++) {
            for (int days = 1; days <= 6 && parishes * days <= 12; days++) {
                for (int wind = 0; wind <= 3; wind++) {
                    blown(parishes, days, wind);
                }
            }
        }
    }

    private static void blown(int parishes, int days, int wind) {
        RainWishes x = Due.under("sky " + parishes + " " + days + ";wind " + wind + ";");
        int all = 0;
        for (int parish = 0; parish < parishes; parish++) {
            for (int day = 0; day < days; day++) {
                int cell = 1 << days * parish + day;
                boolean there = wind >= 1 && parish + wind < parishes && day + 1 < days;
                int also = there ? 1 << days * (parish + wind) + day + 1 : 0;
                due.is("P6 a cloud, wind " + wind, x.weather(cell), cell | also);
                all |= cell;
            }
        }
        due.is("P6 no cloud", x.weather(0), 0);
        due.is("P6 all of them", x.weather(all), all);
    }

    /** P6 to P9, P19: IllegalArgumentException: it has others than CELLS (as below). */
    private static void othersThanCells() {
        for (int parishes = 0; parishes <= 4; parishes++) {
            for (int days = 1; days <= 6 && parishes * days <= 12; days++) {
                int cells = parishes * days;
                RainWishes x = parishes == 0 ? new RainWishes() : Due.under("sky " + parishes + " " + days + ";clouds 6;");
                int all = (1 << cells) - 1;
                due.is("P6 all cells", x.weather(all), all);
                due.is("P9 all cells", x.granted(all), 0);
                due.is("P8 all cells", x.why(all), cells > 6 ? 2 : 0);
                others(x, all + 1);
                others(x, 1 << cells | all);
                others(x, 1 << 12);
                for (int plan : FAR) {
                    others(x, plan);
                }
            }
        }
    }

    private static void others(RainWishes x, int plan) {
        due.fails("P6 weather(" + plan + ")", BAD, () -> x.weather(plan));
        due.is("P8 why(" + plan + ")", x.why(plan), 1);
        due.fails("P9 granted(" + plan + ")", BAD, () -> x.granted(plan));
        due.fails("P19 expected(" + plan + ", 50)", BAD, () -> x.expected(plan, 50));
        due.is("P27 night(" + plan + ")", x.night(plan), -1);
    }

    /** P7: Whether a WISH (OPEN or not) holds; IllegalArgumentException: it has others than CELLS. */
    private static void holdsEdges() {
        RainWishes x = Due.under("sky 2 2;clouds 1;wish by 0:all=4;wish by 0:all=0;wish by 0 must:not all=4;");
        int[] wants = {2 | 4, 4, 4, 4, 1};
        int[] weathers = {0, 1, 8, 14, 15};
        for (int k = 0; k < wants.length; k++) {
            for (int i = 0; i < 3; i++) {
                due.is("P7 holds(" + i + ", " + weathers[k] + ")", x.holds(i, weathers[k]) ? 1 : 0, wants[k] >> i & 1);
            }
        }
        x.withdraw(1);
        due.holds("P7 one that isn't open", x.holds(1, 0));
        for (int weather : new int[] {16, 31, 4096, -1, Integer.MIN_VALUE, Integer.MAX_VALUE}) {
            due.fails("P7 holds(0, " + weather + ")", BAD, () -> x.holds(0, weather));
        }
        RainWishes no = Due.under("sky 1 1;wish by 0:not 1=1;wish by 0:1=2;wish by 0:not 1=2;");
        due.is("P7 not 1=1, and nothing else by it", no.granted(0), 4);
    }

    /** A PLAN can't be, the least of: 1 others than CELLS; 2 more than clouds; 3 a WISH that must be. */
    private static void leastWhy() {
        RainWishes x = Due.under("sky 2 2;clouds 1;wish by 0 must:wet 0 0=1;");
        due.is("P8 1, 2 and 3", x.why(16 | 14), 1);
        due.is("P8 1 and 3", x.why(16), 1);
        due.is("P8 1 alone", x.why(-15), 1);
        due.is("P8 2 and 3", x.why(14), 2);
        due.is("P8 2 alone", x.why(3), 2);
        due.is("P8 3 alone", x.why(8), 3);
        due.is("P8 none", x.why(1), 0);
        due.is("P27 1 before 2 and 3", x.night(16 | 14), -1);
        due.is("P27 2 before 3", x.night(14), -2);
        due.is("P27 3", x.night(8), -3);
    }

    /** 2 it has more than clouds: just as many, one more. */
    private static void cloudsExactly() {
        for (int clouds = 0; clouds <= 6; clouds++) {
            RainWishes x = Due.under("sky 2 6;clouds " + clouds + ";");
            int plan = (1 << clouds) - 1;
            due.is("P8 just as many", x.why(plan << 12 - clouds), 0);
            due.is("P8 one more", x.why(plan | 1 << 11), 2);
            due.is("P8 all", x.why(4095), 2);
            due.is("P27 just as many", x.night(plan), 0);
            due.is("P27 one more", x.night(plan | 1 << 11), -2);
        }
    }

    /** 3 some WISH that must be, and is OPEN, does not hold. */
    private static void mustAndOpen() {
        RainWishes x = Due.under("sky 1 3;wish by 0 must:wet 0 0=1;wish by 0:wet 0 1=1;wish by 0 must:wet 0 2=1;");
        due.is("P8 neither", x.why(2), 3);
        due.is("P8 the first", x.why(1), 3);
        due.is("P8 the last", x.why(4), 3);
        due.is("P8 both", x.why(5), 0);
        due.is("P10 both", x.plans(), 2);
        x.withdraw(0);
        due.is("P8 the one that is open", x.why(4), 0);
        due.is("P10 the one that is open", x.plans(), 4);
        x.withdraw(2);
        due.is("P8 none is open", x.why(0), 0);
        due.is("P10 none is open", x.plans(), 8);
        x.again(2);
        due.is("P8 open again", x.why(0), 3);
        due.is("P10 open again", x.plans(), 4);
    }

    /** P3: the first n bytes are THE SKY: nothing is left of one before, nor of one with a FAULT. */
    private static void mustsOfASkyBefore() {
        RainWishes x = Due.under("sky 1 2;clouds 1;wind 1;wish by 5 weight 9 must:all=1;wish by 0:1=1;");
        x.night(1);
        x.night(0);
        Due.tell(x, "sky 1 2;wish by 0:all=1;wish by 0:all=2;");
        due.is("P3 no must", x.wish(0, 2), 0);
        due.is("P3 weight 1", x.wish(0, 1), 1);
        due.is("P3 clouds 3", x.why(3), 0);
        due.is("P3 its age", x.wish(1, 4), 0);
        due.is("P3 all plans", x.plans(), 4);
        String[] broken = {
            "sky 1 2;wish by 0 must:((((((1+2=", "sky 1 2;wish by 0 must:[[[not[1=(1)*?", "sky 1 2;wish by 0:not not not not 1=1 9",
            "sky 1 2;wish by 0:[[[[[[[", "sky 4 3;clouds 1;wind 2;wish by 1 must:all=1;wish by 0:(((1-(2*(3"
        };
        String six = "sky 1 2;wish by 0:not[not[not[all=0]]];wish by 0:((((((all))))))=1;";
        for (String text : broken) {
            due.holds("P3 a fault", Due.tell(x, text) < -10);
            due.is("P3 a text after it", Due.tell(x, six), 3);
            due.is("P3 weathers of its first", x.wish(0, 5), 3);
            due.is("P3 weathers of its second", x.wish(1, 5), 2);
            due.is("P3 plans after it", x.plans(), 4);
        }
    }

    /** P9: OPEN WISHES that a PLAN GRANTS (whether or not it can be). */
    private static void grantedWhetherOrNot() {
        RainWishes x = Due.under("sky 1 3;clouds 0;wish by 0 must:1=2;wish by 0:all=3;wish by 0:all>0;");
        due.is("P9 more than clouds, a must", x.granted(7), 6);
        due.is("P9 a must", x.granted(0), 0);
        x.withdraw(2);
        due.is("P9 open ones", x.granted(7), 2);
    }

    /** P10: How many PLANS can be: none, one, all. */
    private static void fewestAndMostPlans() {
        due.is("P10 none", Due.under(NO_PLAN).plans(), 0);
        due.is("P10 one", Due.under("sky 4 3;clouds 0;").plans(), 1);
        due.is("P10 all of one cell", Due.under("sky 1 1;clouds 1;").plans(), 2);
        due.is("P10 all of six cells", Due.under("sky 1 6;clouds 6;").plans(), 64);
        due.is("P10 the most there are", Due.under("sky 2 6;clouds 6;").plans(), 2510);
    }

    /** P11, P12, P18: IllegalArgumentException: a set with others than OPEN WISHES (as below). */
    private static void othersThanOpen() {
        RainWishes x = Due.under(tenWishes());
        due.is("P11 all ten", x.together(1023), -1);
        due.is("P12 all ten", x.quarrel(1023), 7);
        due.is("P18 all ten", x.sure(1023, false), -1);
        notOpen(x, 1024);
        notOpen(x, 1 << 31 | 1);
        for (int set : FAR) {
            notOpen(x, set);
        }
        x.withdraw(9);
        due.is("P11 the ninth", x.together(256), 256);
        notOpen(x, 512);
        notOpen(x, 513);
        RainWishes none = new RainWishes();
        notOpen(none, 1);
        notOpen(none, -1);
    }

    private static void notOpen(RainWishes x, int set) {
        due.fails("P11 together(" + set + ")", BAD, () -> x.together(set));
        due.fails("P12 quarrel(" + set + ")", BAD, () -> x.quarrel(set));
        due.fails("P18 sure(" + set + ", true)", BAD, () -> x.sure(set, true));
        due.fails("P18 sure(" + set + ", false)", BAD, () -> x.sure(set, false));
    }

    /** P11: NONE: none (of no WISHES: of all PLANS that can be, likewise). */
    private static void ofNoWishes() {
        due.is("P11 the plan of no cells", Due.under("sky 1 2;wish by 0:all=1;").together(0), 0);
        RainWishes must = Due.under("sky 1 3;clouds 2;wish by 0 must:all>1;wish by 0:1=2;");
        due.is("P11 the fewest cells, then the least", must.together(0), 3);
        due.is("P11 none grants it", must.together(2), -1);
        RainWishes none = Due.under(NO_PLAN);
        for (int set = 0; set < 8; set++) {
            due.is("P11 no plan can be", none.together(set), -1);
        }
        due.is("P11 without a sky", new RainWishes().together(0), 0);
    }

    /** TOGETHER: the PLAN with the fewest CELLS, of like ones the least. */
    private static void fewestThenLeast() {
        RainWishes x = Due.under("sky 2 2;clouds 3;wish by 0:wet 0 0+wet 0 1=2 or wet 1 1=1;wish by 1:wet 1 0=1 or "
                + "wet 0 0=1;wish by 2:all=3;");
        due.is("P11 one cell before two lesser ones", x.together(1), 8);
        due.is("P11 of one cell the least", x.together(2), 1);
        due.is("P11 of two cells the least", x.together(3), 3);
        due.is("P11 all three, with three", x.together(7), 7);
    }

    /** P12: the fewest WISHES of it that aren't TOGETHER, of like ones the least; NONE: they are TOGETHER. */
    private static void quarrelEdges() {
        RainWishes x = Due.under("sky 1 2;clouds 1;wish by 0:wet 0 0=1;wish by 0:all=0;wish by 0:wet 0 1=1;"
                + "wish by 0:1=2;wish by 0:1=1;");
        due.is("P12 no wishes are together", x.quarrel(0), -1);
        due.is("P12 one is together", x.quarrel(1), -1);
        due.is("P12 two are together", x.quarrel(17), -1);
        due.is("P12 two of two", x.quarrel(3), 3);
        due.is("P12 of like ones the least", x.quarrel(7), 3);
        due.is("P12 one alone, though it is larger", x.quarrel(15), 8);
        due.is("P12 all", x.quarrel(31), 8);
        RainWishes none = Due.under(NO_PLAN);
        due.is("P12 no plan can be: no wishes aren't together", none.quarrel(7), 0);
        due.is("P12 nor of none", none.quarrel(0), 0);
    }

    /** P13: (none, if it alone isn't so); IllegalArgumentException: it isn't OPEN. */
    private static void foesEdges() {
        RainWishes x = Due.under("sky 1 2;clouds 1;wish by 0:wet 0 0=1;wish by 0:1=2;wish by 0:wet 0 1=1;wish by 0:1=1;");
        due.is("P13 it alone isn't so", x.foes(1), 0);
        due.is("P13 with one that can't be", x.foes(3), 2);
        due.is("P13 by twos", x.foes(0), 2 | 4);
        due.is("P13 the other way", x.foes(2), 1 | 2);
        x.withdraw(0);
        due.fails("P13 it isn't open", BAD, () -> x.foes(0));
        due.is("P13 open ones", x.foes(2), 2);
        RainWishes none = Due.under(NO_PLAN);
        for (int i = 0; i < 3; i++) {
            due.is("P13 no plan can be", none.foes(i), 0);
        }
    }

    /** P14: of like ones the fewest CELLS, then the least; NONE: no PLAN can be; another what. */
    private static void mostEdges() {
        RainWishes x = Due.under("sky 1 3;clouds 3;wish by 0 weight 9:wet 0 0=1 and wet 0 1=1;wish by 1 weight 9:"
                + "wet 0 2=1 and all=1;wish by 2 weight 9:wet 0 1=1 and all=1;wish by 3 weight 8:all=0;");
        due.is("P14 the weight", x.most(0), 9);
        due.is("P14 the wishes", x.most(1), 4);
        due.is("P14 the plan", x.most(2), 2);
        RainWishes fall = Due.under("sky 1 2;wish by 0 weight 9:all=0;wish by 0 weight 2:all=1;");
        due.is("P14 a plan behind the best is no better", fall.most(2), 0);
        RainWishes no = Due.under("sky 1 1;");
        for (int what = 0; what < 3; what++) {
            due.is("P14 nothing to grant", no.most(what), 0);
            due.is("P14 no plan can be", Due.under(NO_PLAN).most(what), -1);
            due.is("P14 without a sky", new RainWishes().most(what), 0);
        }
        for (int what : new int[] {-1, 3, 10, Integer.MIN_VALUE, Integer.MAX_VALUE}) {
            due.fails("P14 most(" + what + ")", BAD, () -> x.most(what));
            due.fails("P14 no plan, most(" + what + ")", BAD, () -> Due.under(NO_PLAN).most(what));
        }
        StringBuilder ten = new StringBuilder("sky 1 1;");
        for (int k = 0; k < 10; k++) {
            ten.append("wish by 0 weight 9:all=1;");
        }
        due.is("P14 the most weight there is", Due.under(ten.toString()).most(0), 90);
        due.is("P14 all ten", Due.under(ten.toString()).most(1), 1023);
    }

    /** P15: NONE: some can't be granted at all (no WISH being OPEN no more in between). */
    private static void nightsEdges() {
        due.is("P15 without a sky", new RainWishes().nights(), 0);
        RainWishes x = Due.under("sky 1 2;clouds 1;wish by 0:wet 0 0=1;wish by 0:wet 0 1=1;wish by 0:1=2;");
        due.is("P15 one can't be granted", x.nights(), -1);
        x.withdraw(2);
        due.is("P15 without it", x.nights(), 2);
        x.withdraw(0);
        due.is("P15 one is left", x.nights(), 1);
        x.withdraw(1);
        due.is("P15 none is left", x.nights(), 0);
        due.is("P15 no plan can be", Due.under(NO_PLAN).nights(), -1);
        RainWishes must = Due.under("sky 1 2;clouds 1;wish by 0 must:wet 0 0=1;wish by 0:wet 0 1=1;");
        due.is("P15 a must stays open in between", must.nights(), -1);
        RainWishes twice = Due.under("sky 1 4;clouds 2;wish by 0:wet 0 0=1;wish by 0:wet 0 1=1;wish by 0:wet 0 2=1;"
                + "wish by 0:wet 0 3=1 and wet 0 0=1;wish by 0:wet 0 2=1 and wet 0 3=1;");
        due.is("P15 three of five", twice.nights(), 3);
        StringBuilder ten = new StringBuilder("sky 2 5;clouds 1;");
        for (int k = 0; k < 10; k++) {
            ten.append("wish by 0:wet ").append(k / 5).append(' ').append(k % 5).append("=1;");
        }
        due.is("P15 ten nights", Due.under(ten.toString()).nights(), 10);
        due.is("P15 five nights", Due.under(ten.toString().replace("clouds 1", "clouds 2")).nights(), 5);
        due.is("P15 four nights", Due.under(ten.toString().replace("clouds 1", "clouds 3")).nights(), 4);
    }

    /** P16: NONE: it can't be granted; IllegalArgumentException: it isn't OPEN, another what. */
    private static void heartsEdges() {
        RainWishes x = Due.under("sky 1 2;clouds 1;wish by 0:1=1;wish by 0:wet 0 0=1;wish by 0:1=2;wish by 0:wet 0 1=1;"
                + "wish by 0:all=1;");
        for (int what = 0; what < 2; what++) {
            due.is("P16 it can't be granted", x.hearts(2, what), -1);
        }
        due.is("P16 the least of like ones", x.hearts(0, 1), 2 | 4);
        due.is("P16 how many", x.hearts(0, 0), 2);
        due.is("P16 it is not given up itself", x.hearts(1, 1), 4 | 8);
        due.is("P16 the other", x.hearts(3, 1), 2 | 4);
        for (int what : new int[] {-1, 2, 10, Integer.MIN_VALUE, Integer.MAX_VALUE}) {
            due.fails("P16 hearts(0, " + what + ")", BAD, () -> x.hearts(0, what));
            due.fails("P16 hearts(2, " + what + ")", BAD, () -> x.hearts(2, what));
        }
        x.withdraw(2);
        x.withdraw(3);
        due.fails("P16 it isn't open", BAD, () -> x.hearts(2, 0));
        due.is("P16 none is given up: how many", x.hearts(1, 0), 0);
        due.is("P16 none is given up: which", x.hearts(1, 1), 0);
        RainWishes none = Due.under(NO_PLAN);
        for (int i = 0; i < 3; i++) {
            due.is("P16 no plan can be", none.hearts(i, 0), -1);
        }
    }

    /** (those that must be can't be given up). */
    private static void heartsOfMusts() {
        RainWishes x = Due.under("sky 1 3;clouds 1;wish by 0:wet 0 0=1;wish by 0 must:all=1;wish by 0:all=0;"
                + "wish by 0:wet 0 1=1;");
        due.is("P16 against a must", x.hearts(2, 1), -1);
        due.is("P16 beside a must", x.hearts(3, 1), 1 | 4);
        due.is("P16 for the must the least of like ones", x.hearts(1, 1), 1 | 4);
        x.withdraw(1);
        due.is("P16 the must isn't open", x.hearts(2, 1), 1 | 8);
    }

    /** P17: OPEN WISHES (but it), (all, if it can't be granted); IllegalArgumentException: it isn't OPEN. */
    private static void followsEdges() {
        RainWishes x = Due.under("sky 1 2;clouds 2;wish by 0:1=1;wish by 0:1=2;wish by 0:all=2;wish by 0:all>0;");
        due.is("P17 it can't be granted: all but it", x.follows(1), 1 | 4 | 8);
        due.is("P17 none follows", x.follows(0), 0);
        due.is("P17 by one plan", x.follows(2), 1 | 8);
        due.is("P17 by each plan", x.follows(3), 1);
        x.withdraw(0);
        due.fails("P17 it isn't open", BAD, () -> x.follows(0));
        due.is("P17 open ones: all but it", x.follows(1), 4 | 8);
        RainWishes first = Due.under("sky 1 1;wish by 0:1=1;wish by 0:all=1;");
        due.is("P17 the plan of no cells counts", first.follows(0), 0);
        due.is("P17 no plan can be: all but it", Due.under(NO_PLAN).follows(2), 3);
    }

    /** P18: NONE: they aren't TOGETHER. */
    private static void sureEdges() {
        RainWishes x = Due.under("sky 1 3;clouds 1;wish by 0:all=0;wish by 0:wet 0 2=1;wish by 0:1=1;");
        due.is("P18 dry by the only plan: all", x.sure(1, false), 7);
        due.is("P18 wet by the only plan: none", x.sure(1, true), 0);
        due.is("P18 wet", x.sure(6, true), 4);
        due.is("P18 dry", x.sure(6, false), 3);
        due.is("P18 of no wishes, wet", x.sure(0, true), 0);
        due.is("P18 of no wishes, dry", x.sure(0, false), 0);
        due.is("P18 they aren't together, wet", x.sure(3, true), -1);
        due.is("P18 they aren't together, dry", x.sure(3, false), -1);
        RainWishes full = Due.under("sky 2 3;clouds 6;wish by 0:all=6;");
        due.is("P18 all are wet", full.sure(1, true), 63);
        due.is("P18 none is dry", full.sure(1, false), 0);
        RainWishes no = Due.under("sky 1 3;clouds 0;");
        due.is("P18 no clouds: all are dry", no.sure(0, false), 7);
        RainWishes none = Due.under(NO_PLAN);
        for (int set = 0; set < 8; set++) {
            due.is("P18 no plan can be", none.sure(set, set > 3), -1);
        }
    }

    /** each cloud of a PLAN (4 at most); P19: IllegalArgumentException: more than 4. */
    private static void fourAtMost() {
        RainWishes x = Due.under("sky 2 6;clouds 0;wish by 0 weight 3:all=4;wish by 0:all=0;");
        due.is("P19 no cells", x.expected(0, 50), 1);
        due.is("P19 four", x.expected(15, 100), 300000000L);
        due.is("P19 four others", x.expected(0xf00, 100), 300000000L);
        due.is("P19 four, half", x.expected(0x888 | 1, 50), 6250000L * 3 + 6250000L);
        for (int plan : new int[] {31, 0xf80, 0x888 | 3, 63, 4095}) {
            due.fails("P19 more than four", BAD, () -> x.expected(plan, 50));
        }
    }

    /** by so many hundredths (0 to 100), or not; P19, P20: IllegalArgumentException: hundredths. */
    private static void hundredths() {
        RainWishes x = Due.under("sky 1 2;wish by 0 weight 9:all=1;wish by 0 weight 2:all=0;wish by 0 weight 5:all=2;");
        due.is("P19 0: none comes", x.expected(3, 0), 20000);
        due.is("P19 1", x.expected(3, 1), 99 * 99 * 2 + 2 * 99 * 9 + 5);
        due.is("P19 99", x.expected(3, 99), 99 * 99 * 5 + 2 * 99 * 9 + 2);
        due.is("P19 100: all come", x.expected(3, 100), 50000);
        due.is("P20 0", x.bestChance(0), 0);
        due.is("P20 1", x.bestChance(1), 3);
        due.is("P20 100", x.bestChance(100), 1);
        for (int hundredths : new int[] {-1, 101, 200, Integer.MIN_VALUE, Integer.MAX_VALUE}) {
            due.fails("P19 hundredths " + hundredths, BAD, () -> x.expected(3, hundredths));
            due.fails("P20 hundredths " + hundredths, BAD, () -> x.bestChance(hundredths));
            due.fails("P20 no plan, hundredths " + hundredths, BAD, () -> Due.under(NO_PLAN).bestChance(hundredths));
        }
    }

    /** only those that come are put; a must is then no matter. */
    private static void mustNoMatter() {
        RainWishes x = Due.under("sky 2 2;wind 1;wish by 0 weight 7 must:all=2;wish by 0 weight 3:all=0;");
        due.is("P19 the must is granted or not", x.expected(1, 40), 40 * 7 + 60 * 3);
        due.is("P19 by a plan that can't be", x.expected(2, 40), 60 * 3);
        due.is("P19 both come, one, none", x.expected(10, 50), 25 * 100 * 7 + 25 * 100 * 3);
        due.is("P20 of plans that can be", x.bestChance(10), 1);
        due.is("P19 no plan can be", Due.under(NO_PLAN).expected(1, 40), 100);
    }

    /** BEST CHANCE: of all PLANS that can be with at most 3 CELLS; P20: NONE: none can be. */
    private static void threeAtMost() {
        RainWishes x = Due.under("sky 1 5;clouds 5;wish by 0 weight 9:all=4;wish by 0:all=3;");
        due.is("P20 three, not four", x.bestChance(100), 7);
        RainWishes four = Due.under("sky 1 4;clouds 4;wish by 0 must:all>3;");
        due.is("P20 only four can be", four.bestChance(50), -1);
        four.withdraw(0);
        due.is("P20 now all can be", four.bestChance(50), 0);
        RainWishes three = Due.under("sky 1 4;clouds 3;wish by 0 must:all>2;");
        due.is("P20 only three can be", three.bestChance(50), 7);
        due.is("P20 no plan can be", Due.under(NO_PLAN).bestChance(50), -1);
        due.is("P20 nothing to grant", Due.under("sky 1 1;").bestChance(50), 0);
        due.is("P20 nothing is granted", Due.under("sky 1 1;wish by 0:1=2;").bestChance(50), 0);
    }

    /** with the most EXPECTED (as a part), of like ones the fewest CELLS, then the least. */
    private static void chanceOfLikeOnes() {
        RainWishes x = Due.under("sky 1 3;wish by 0 weight 2:wet 0 2=1;wish by 0 weight 2:wet 0 1=1 and all=1;"
                + "wish by 0:wet 0 0=1;");
        due.is("P20 two as good as three: the fewest cells", x.bestChance(100), 5);
        RainWishes any = Due.under("sky 1 3;wish by 0:all>0;");
        due.is("P20 all come: the least of like ones", any.bestChance(100), 1);
        RainWishes part = Due.under("sky 1 2;wish by 0 weight 2:all=1;wish by 0 weight 4:all=2;");
        due.is("P20 half: one cloud 1, two 2", part.bestChance(50), 3);
        RainWishes same = Due.under("sky 1 2;wish by 0 weight 2:all=1;");
        due.is("P20 half: one cloud 1, two 1", same.bestChance(50), 1);
        RainWishes less = Due.under("sky 1 2;wish by 0 weight 2:all=1;wish by 0 weight 1:all=2;");
        due.is("P19 one cloud", less.expected(1, 67), 134);
        due.is("P19 two clouds", less.expected(3, 67), 13333);
        due.is("P20 13333 of 10000 are less than 134 of 100", less.bestChance(67), 1);
        RainWishes more = Due.under("sky 1 2;wish by 0 weight 4:all=1;wish by 0 weight 1:all=2;");
        due.is("P19 one cloud", more.expected(1, 57), 228);
        due.is("P19 two clouds", more.expected(3, 57), 22857);
        due.is("P20 22857 of 10000 are more than 228 of 100", more.bestChance(57), 3);
        RainWishes late = Due.under("sky 1 3;wish by 0:wet 0 2=1 and all=1;wish by 0:all=2;");
        due.is("P20 all come: one cell before a lesser two", late.bestChance(100), 4);
    }
}
