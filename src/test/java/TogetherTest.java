import java.util.NoSuchElementException;

/** Promises 11 to 20: wishes granted together, the most weight, nights, hearts, and clouds by chance. */
public final class TogetherTest {
    private static final Class<IllegalArgumentException> BAD = IllegalArgumentException.class;
    private static final Class<NoSuchElementException> NO_SUCH = NoSuchElementException.class;
    private static final String NO_PLAN = "sky 1 2;wish by 0 must:1=2;wish by 1:all=0;";
    private static final Due due = new Due("TogetherTest");

    public static void main(String[] args) {
        together();
        quarrel();
        foes();
        most();
        nights();
        hearts();
        follows();
        sure();
        expected();
        bestChance();
        due.end();
    }

    private static void together() {
        RainWishes x = Due.under("sky 2 3;clouds 2;wind 1;wish by 0:all>1;wish by 0:wet 0 2=1;wish by 1:all=3;"
                + "wish by 1:all>4;");
        due.is("P11 the fewest cells by the wind", x.together(1), 1);
        due.is("P11 one cell", x.together(2), 4);
        due.is("P11 of like ones the least", x.together(3), 5);
        due.is("P11 no wishes", x.together(0), 0);
        due.is("P11 none", x.together(8), -1);
        due.is("P11 others may be granted, too", x.together(4), 5);
        due.fails("P11 together(16)", BAD, () -> x.together(16));
        due.fails("P11 together(-1)", BAD, () -> x.together(-1));
        x.withdraw(0);
        due.fails("P11 one that is not open", BAD, () -> x.together(1));
        RainWishes y = Due.under(NO_PLAN);
        due.is("P11 no plan can be", y.together(0), -1);
        due.is("P11 nor for a wish", y.together(2), -1);
        RainWishes z = Due.under("sky 1 3;wish by 0 must:all>1;wish by 0:wet 0 2=0;");
        due.is("P11 no wishes, with a must", z.together(0), 3);
        RainWishes fewer = Due.under("sky 1 3;wish by 0:wet 0 0=1 and wet 0 1=1 or wet 0 2=1;");
        due.is("P11 fewer cells go before the least", fewer.together(1), 4);
        due.is("P11 without a sky", new RainWishes().together(0), 0);
    }

    private static void quarrel() {
        RainWishes x = Due.under("sky 1 3;clouds 2;wish by 0:wet 0 0=1;wish by 0:wet 0 1=1;wish by 0:wet 0 2=1;"
                + "wish by 0:wet 0 0=0;wish by 0:all=9;");
        due.is("P12 together", x.quarrel(3), -1);
        due.is("P12 three", x.quarrel(7), 7);
        due.is("P12 two before three", x.quarrel(15), 9);
        due.is("P12 one before two", x.quarrel(31), 16);
        due.is("P12 no wishes", x.quarrel(0), -1);
        due.fails("P12 quarrel(32)", BAD, () -> x.quarrel(32));
        RainWishes y = Due.under("sky 1 1;wish by 0:1=1;wish by 0:all=0;wish by 0:all=1;wish by 0:all=0;");
        due.is("P12 of like ones the least", y.quarrel(15), 6);
        due.is("P12 only of the set", y.quarrel(13), 12);
        y.withdraw(1);
        due.fails("P12 one that is not open", BAD, () -> y.quarrel(2));
        RainWishes z = Due.under(NO_PLAN);
        due.is("P12 no plan can be: no wishes at all", z.quarrel(3), 0);
        due.is("P12 no plan, of no wishes", z.quarrel(0), 0);
    }

    private static void foes() {
        RainWishes x = Due.under("sky 1 3;clouds 2;wish by 0:wet 0 0=1;wish by 0:wet 0 0=0;wish by 1:all=0;"
                + "wish by 2:1=2;wish by 3:1=1;");
        due.is("P13 foes(0)", x.foes(0), 2 | 4 | 8);
        due.is("P13 foes(1)", x.foes(1), 1 | 8);
        due.is("P13 it alone is not together", x.foes(3), 0);
        due.is("P13 foes(4)", x.foes(4), 8);
        x.withdraw(3);
        due.is("P13 only open ones", x.foes(4), 0);
        due.fails("P13 foes(3)", BAD, () -> x.foes(3));
        due.fails("P13 foes(5)", NO_SUCH, () -> x.foes(5));
        due.fails("P13 foes(-1)", NO_SUCH, () -> x.foes(-1));
    }

    private static void most() {
        RainWishes x = Due.under("sky 1 3;clouds 2;wish by 0 weight 2:wet 0 0=1;wish by 0 weight 3:wet 0 1=1;"
                + "wish by 1 weight 5:wet 0 2=1 and wet 0 0=0;wish by 1 weight 1:all=1;");
        due.is("P14 the weight", x.most(0), 8);
        due.is("P14 the wishes", x.most(1), 6);
        due.is("P14 the plan", x.most(2), 6);
        due.fails("P14 most(3)", BAD, () -> x.most(3));
        due.fails("P14 most(-1)", BAD, () -> x.most(-1));
        RainWishes y = Due.under("sky 1 3;wish by 0 weight 4:wet 0 0=1 and wet 0 1=1;wish by 0 weight 4:wet 0 2=1 and "
                + "all=1;wish by 0 weight 4:wet 0 1=1 and all=1;");
        due.is("P14 the fewest cells, then the least", y.most(2), 2);
        due.is("P14 its wishes", y.most(1), 4);
        RainWishes fewer = Due.under("sky 1 3;wish by 0 weight 4:wet 0 0=1 and wet 0 1=1;"
                + "wish by 0 weight 4:wet 0 2=1 and all=1;");
        due.is("P14 fewer cells go before the least", fewer.most(2), 4);
        RainWishes z = Due.under(NO_PLAN);
        for (int what = 0; what < 3; what++) {
            due.is("P14 no plan can be: most(" + what + ")", z.most(what), -1);
        }
        due.fails("P14 no plan, another what", BAD, () -> z.most(3));
        z.withdraw(0);
        due.is("P14 without the must", z.most(0), 1);
    }

    private static void nights() {
        due.is("P15 without a sky", new RainWishes().nights(), 0);
        due.is("P15 no wishes", Due.under("sky 1 1;").nights(), 0);
        due.is("P15 one", Due.under("sky 1 2;wish by 0:all>0;wish by 0:wet 0 1=1;").nights(), 1);
        RainWishes x = Due.under("sky 1 4;clouds 1;wish by 0:wet 0 0=1;wish by 0:wet 0 1=1;wish by 0:wet 0 2=1;"
                + "wish by 0:wet 0 3=1;wish by 0:1=1;");
        due.is("P15 four", x.nights(), 4);
        x.withdraw(2);
        due.is("P15 three", x.nights(), 3);
        RainWishes pairs = Due.under("sky 1 4;clouds 2;wish by 0:wet 0 0=1;wish by 0:wet 0 1=1;wish by 0:wet 0 2=1;"
                + "wish by 0:wet 0 3=1;wish by 0:wet 0 0+wet 0 1=0;");
        due.is("P15 pairs", pairs.nights(), 2);
        due.is("P15 some can't be", Due.under("sky 1 1;wish by 0:1=1;wish by 0:1=2;").nights(), -1);
        due.is("P15 a must holds on each night",
                Due.under("sky 1 1;wish by 0 must:all=1;wish by 0:all=0;").nights(), -1);
        StringBuilder ten = new StringBuilder("sky 2 5;clouds 1;");
        for (int k = 0; k < 10; k++) {
            ten.append("wish by 0:wet ").append(k / 5).append(' ').append(k % 5).append("=1;");
        }
        due.is("P15 ten", Due.under(ten.toString()).nights(), 10);
    }

    private static void hearts() {
        RainWishes x = Due.under("sky 1 3;clouds 2;wish by 0:wet 0 0=1;wish by 0:wet 0 1=1;wish by 0:wet 0 2=1;"
                + "wish by 1:wet 0 0=0;wish by 1:all=9;");
        due.is("P16 how many for 0", x.hearts(0, 0), 3);
        due.is("P16 which for 0", x.hearts(0, 1), 2 | 8 | 16);
        due.is("P16 which for 3", x.hearts(3, 1), 1 | 16);
        due.is("P16 it can't be granted", x.hearts(4, 0), -1);
        due.is("P16 it can't be granted: which", x.hearts(4, 1), -1);
        due.fails("P16 another what", BAD, () -> x.hearts(0, 2));
        due.fails("P16 another what, can't be granted", BAD, () -> x.hearts(4, -1));
        due.fails("P16 hearts(5, 2)", NO_SUCH, () -> x.hearts(5, 2));
        x.withdraw(4);
        due.is("P16 one less", x.hearts(0, 0), 2);
        due.fails("P16 not open", BAD, () -> x.hearts(4, 0));
        RainWishes must = Due.under("sky 1 2;clouds 1;wish by 0 must:all=1;wish by 0:wet 0 0=1;wish by 0:wet 0 1=1;"
                + "wish by 0:all=0;");
        due.is("P16 musts can't be given up", must.hearts(3, 0), -1);
        due.is("P16 beside a must", must.hearts(2, 1), 2 | 8);
        due.is("P16 for the must", must.hearts(0, 1), 2 | 8);
        due.is("P16 none is given up", Due.under("sky 1 1;wish by 0:1=1;wish by 1:all=1;").hearts(0, 0), 0);
    }

    private static void follows() {
        RainWishes x = Due.under("sky 2 2;clouds 2;wind 1;wish by 0:wet 0 0=1;wish by 0:wet 1 1=1;wish by 0:all>1;"
                + "wish by 1:1=1;wish by 1:1=2;");
        due.is("P17 by the wind", x.follows(0), 2 | 4 | 8);
        due.is("P17 not the other way", x.follows(1), 8);
        due.is("P17 of what always holds", x.follows(3), 0);
        due.is("P17 it can't be granted: all but it", x.follows(4), 15);
        x.withdraw(2);
        due.is("P17 open ones", x.follows(0), 2 | 8);
        due.fails("P17 follows(2)", BAD, () -> x.follows(2));
        due.fails("P17 follows(5)", NO_SUCH, () -> x.follows(5));
        due.is("P17 no plan can be", Due.under(NO_PLAN).follows(1), 1);
    }

    private static void sure() {
        RainWishes x = Due.under("sky 2 2;clouds 1;wind 1;wish by 0:all=2;wish by 1:all<2;wish by 1:wet 0 1=1;");
        due.is("P18 wet", x.sure(1, true), 9);
        due.is("P18 dry", x.sure(1, false), 6);
        due.is("P18 wet by none", x.sure(2, true), 0);
        due.is("P18 dry by each", x.sure(2, false), 1);
        due.is("P18 of no wishes", x.sure(0, false), 0);
        due.is("P18 not together", x.sure(5, true), -1);
        due.is("P18 not together, dry", x.sure(5, false), -1);
        due.fails("P18 sure(8, true)", BAD, () -> x.sure(8, true));
        x.withdraw(0);
        due.fails("P18 sure(1, true)", BAD, () -> x.sure(1, true));
        due.is("P18 no plan can be", Due.under(NO_PLAN).sure(0, true), -1);
        due.is("P18 without a sky", new RainWishes().sure(0, false), 0);
    }

    private static void expected() {
        RainWishes x = Due.under("sky 2 3;clouds 1;wish by 0 weight 5:wet 0 0=1;wish by 1 weight 2:all=0;"
                + "wish by 1 weight 9 must:all>2;");
        due.is("P19 no clouds", x.expected(0, 30), 2);
        due.is("P19 one", x.expected(1, 30), 30 * 5 + 70 * 2);
        due.is("P19 two", x.expected(3, 30), 30 * 100 * 5 + 70 * 70 * 2);
        due.is("P19 three, a must is no matter", x.expected(7, 50), 50 * 10000L * 5 + 125000 * 2 + 125000 * 9);
        due.is("P19 four for sure", x.expected(15, 100), 100000000L * 14);
        due.is("P19 four, never", x.expected(15, 0), 100000000L * 2);
        x.withdraw(0);
        due.is("P19 only open ones", x.expected(1, 30), 140);
        due.fails("P19 five cells", BAD, () -> x.expected(31, 50));
        due.fails("P19 other cells", BAD, () -> x.expected(64, 50));
        due.fails("P19 -1", BAD, () -> x.expected(-1, 50));
        due.fails("P19 101", BAD, () -> x.expected(1, 101));
        due.fails("P19 below 0", BAD, () -> x.expected(1, -1));
        StringBuilder ten = new StringBuilder("sky 2 6;");
        for (int k = 0; k < 10; k++) {
            ten.append("wish by 0 weight 9:all>3;");
        }
        due.is("P19 the most there is", Due.under(ten.toString()).expected(15, 100), 9000000000L);
        due.is("P19 the wind blows what comes", Due.under("sky 2 2;wind 1;wish by 0:wet 1 1=1;").expected(1, 7), 7);
        due.is("P19 without a sky", new RainWishes().expected(0, 0), 0);
    }

    private static void bestChance() {
        RainWishes x = Due.under("sky 1 4;clouds 4;wish by 0 weight 9:all>2;wish by 1 weight 2:all=1;"
                + "wish by 2 weight 1:all=0;");
        due.is("P20 all come", x.bestChance(100), 7);
        due.is("P20 none comes", x.bestChance(0), 0);
        due.is("P20 half: one cloud 1.5, two 1.25, three 2", x.bestChance(50), 7);
        RainWishes parts = Due.under("sky 1 3;wish by 0 weight 3:all=1;wish by 1:all=3;");
        due.is("P20 half: one cloud 1.5, two 1.5, three 1.25", parts.bestChance(50), 1);
        due.is("P20 40: one cloud 1.2, two 1.44, three 1.36", parts.bestChance(40), 3);
        due.is("P20 30: one cloud 0.9, two 1.26, three 1.35", parts.bestChance(30), 7);
        due.fails("P20 101", BAD, () -> x.bestChance(101));
        due.fails("P20 -1", BAD, () -> x.bestChance(-1));
        RainWishes like = Due.under("sky 1 3;wish by 0:wet 0 2=1;wish by 0:wet 0 1=1 and all=1;");
        due.is("P20 of like ones the fewest cells, then the least", like.bestChance(100), 2);
        RainWishes fewer = Due.under("sky 1 3;wish by 0:wet 0 0=1 and wet 0 1=1;wish by 0:wet 0 2=1 and all=1;");
        due.is("P20 fewer cells go before the least", fewer.bestChance(100), 4);
        due.is("P20 no plan can be", Due.under(NO_PLAN).bestChance(50), -1);
        due.is("P20 none with three cells can be",
                Due.under("sky 1 4;clouds 4;wish by 0 must:all=4;").bestChance(50), -1);
        RainWishes must = Due.under("sky 1 2;wish by 0 must:wet 0 1=1;wish by 0 weight 9:all=0;");
        due.is("P20 only plans that can be", must.bestChance(10), 2);
        due.is("P20 without a sky", new RainWishes().bestChance(50), 0);
    }
}
