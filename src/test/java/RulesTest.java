/** Promises 21 to 24: who is served by rules, and whether asking otherwise gains. */
public final class RulesTest {
    private static final Class<IllegalArgumentException> BAD = IllegalArgumentException.class;
    private static final Due due = new Due("RulesTest");

    public static void main(String[] args) {
        served();
        share();
        gains();
        gainsByForms();
        bestRule();
        due.end();
    }

    /** One cloud and four places: one wish for a place is served, and the last wish with any. */
    private static RainWishes fourPlaces() {
        return Due.under("sky 1 4;clouds 2;wish by 0 weight 2:all=1 and wet 0 0=1;wish by 0 weight 5:all=2;"
                + "wish by 1 weight 5:all=0;wish by 2:all=1;");
    }

    private static void served() {
        RainWishes x = fourPlaces();
        due.is("P21 rule 0, all alike old: by number", x.served(0), 1 | 8);
        due.is("P21 rule 1, the weightiest, then number", x.served(1), 2);
        due.is("P21 rule 2, persons with one wish, then number", x.served(2), 4);
        due.is("P21 rule 3, the fewest cells", x.served(3), 4);
        due.fails("P21 served(4)", BAD, () -> x.served(4));
        due.fails("P21 served(-1)", BAD, () -> x.served(-1));
        x.night(3);
        x.again(1);
        due.is("P21 the eldest by number", x.served(0), 1 | 8);
        x.withdraw(0);
        x.again(0);
        due.is("P21 the eldest is now 2", x.served(0), 4);
        x.withdraw(2);
        due.is("P21 without it", x.served(0), 1 | 8);
        due.is("P21 rule 2, person 2", x.served(2), 1 | 8);
        RainWishes cant = Due.under("sky 1 2;clouds 1;wish by 0:all=2;wish by 0:all=1;wish by 0:all=0;");
        due.is("P21 those that can't come last", cant.served(3), 4);
        due.is("P21 one that can't is passed over", cant.served(0), 2);
        RainWishes must = Due.under("sky 1 2;clouds 1;wish by 0:all=0;wish by 0 must:all=1;wish by 1:1=1;");
        due.is("P21 a must is the plans' own matter", must.served(0), 2 | 4);
        RainWishes none = Due.under("sky 1 1;wish by 0 must:1=2;wish by 0:1=1;");
        for (int rule = 0; rule < 4; rule++) {
            due.is("P21 no plan can be, rule " + rule, none.served(rule), 0);
            due.is("P21 without a sky, rule " + rule, new RainWishes().served(rule), 0);
        }
    }

    private static void share() {
        RainWishes x = fourPlaces();
        due.is("P22 share(0, 0)", x.share(0, 0), 2);
        due.is("P22 share(2, 0)", x.share(2, 0), 1);
        due.is("P22 share(0, 1)", x.share(0, 1), 5);
        due.is("P22 share(1, 1)", x.share(1, 1), 0);
        due.is("P22 share(1, 3)", x.share(1, 3), 5);
        due.is("P22 share(5, 3)", x.share(5, 3), 0);
        due.fails("P22 share(6, 0)", BAD, () -> x.share(6, 0));
        due.fails("P22 share(-1, 0)", BAD, () -> x.share(-1, 0));
        due.fails("P22 share(0, 4)", BAD, () -> x.share(0, 4));
        due.is("P22 without a sky", new RainWishes().share(5, 3), 0);
    }

    private static void gains() {
        RainWishes x = fourPlaces();
        due.is("P23 0 by rule 0 gives up 0 and gains", x.gains(0, 0, 0), 3);
        due.is("P23 its first form", x.gains(0, 0, 1), 10);
        due.is("P23 1 by rule 0, 9 older", x.gains(1, 0, 0), 5);
        due.is("P23 its form", x.gains(1, 0, 1), 32);
        due.is("P23 1 by rule 1, of weight 9", x.gains(1, 1, 1), 22);
        due.is("P23 1 by rule 2 is served", x.gains(1, 2, 0), 0);
        due.is("P23 no form", x.gains(1, 2, 1), -1);
        due.is("P23 2 by rule 2: nothing helps", x.gains(2, 2, 0), 0);
        due.is("P23 0 by rule 2 gives up one", x.gains(0, 2, 0), 5);
        due.is("P23 0 by rule 2: the other one", x.gains(0, 2, 1), 10);
        due.is("P23 somebody without wishes", x.gains(5, 0, 0), 0);
        due.fails("P23 person 6", BAD, () -> x.gains(6, 0, 0));
        due.fails("P23 person -1", BAD, () -> x.gains(-1, 0, 0));
        due.fails("P23 rule 4", BAD, () -> x.gains(0, 4, 0));
        due.fails("P23 what 2", BAD, () -> x.gains(0, 0, 2));
        due.fails("P23 what -1", BAD, () -> x.gains(0, 0, -1));
        due.is("P23 nothing is changed", x.served(0), 1 | 8);
        due.is("P23 without a sky", new RainWishes().gains(0, 0, 1), -1);
    }

    private static void gainsByForms() {
        RainWishes weight = Due.under("sky 1 1;wish by 0 weight 3:all=0;wish by 1 weight 2:all=1;");
        due.is("P23 weight as it is", weight.gains(1, 1, 0), 2);
        due.is("P23 the form", weight.gains(1, 1, 1), 21);
        due.is("P23 by rule 3 nothing is said", weight.gains(1, 3, 0), 0);
        RainWishes must = Due.under("sky 1 2;clouds 1;wish by 0 must:all=1;wish by 0 weight 3:wet 0 0=1;"
                + "wish by 0 weight 8:wet 0 1=1;");
        due.is("P23 a must is not given up, another is", must.gains(0, 0, 0), 5);
        due.is("P23 the first form", must.gains(0, 0, 1), 11);
        RainWishes only = Due.under("sky 1 1;clouds 1;wish by 0:all=0;wish by 1 must:all=1;wish by 1 weight 5:all=0;");
        due.is("P23 giving up the must would gain", only.gains(1, 0, 0), 0);
        RainWishes fewer = Due.under("sky 1 1;wish by 0 must:1=1;wish by 0 weight 5:all=1;wish by 1:all=0;");
        due.is("P23 nor would person 0 come first without its must", fewer.gains(0, 2, 0), 0);
        due.is("P23 without a must it would", Due.under("sky 1 1;wish by 0:1=1;wish by 0 weight 5:all=1;"
                + "wish by 1:all=0;").gains(0, 2, 1), 10);
        RainWishes older = Due.under("sky 1 2;clouds 1;wish by 0:1=1;wish by 0:all=0;wish by 1 must:all<9;wish by 1:all=1;");
        due.is("P23 the one against 1", older.gains(1, 0, 1), 33);
        older.withdraw(3);
        due.is("P23 only open ones", older.gains(1, 0, 0), 0);
        RainWishes same = Due.under("sky 1 2;clouds 2;wish by 1 weight 9:all=0;wish by 0 weight 4:wet 0 0=1;"
                + "wish by 0 weight 4:wet 0 1=1;");
        due.is("P23 of like gains the first form", same.gains(0, 0, 1), 31);
        due.is("P23 both are served then", same.gains(0, 0, 0), 8);
        due.is("P23 weight 9 is not before an earlier 9", same.gains(0, 1, 0), 0);
        RainWishes aged = Due.under("sky 1 1;wish by 0:all=0;wish by 1:all=1;");
        aged.withdraw(0);
        for (int k = 0; k < 9; k++) {
            aged.night(0);
        }
        aged.again(0);
        due.is("P23 the elder is served", aged.served(0), 2);
        due.is("P23 9 older is as old as 9, and of a lower number", aged.gains(0, 0, 1), 30);
        aged.withdraw(0);
        aged.night(0);
        aged.again(0);
        due.is("P23 9 older is younger than 10", aged.gains(0, 0, 0), 0);
    }

    private static void bestRule() {
        due.is("P24 the first of like ones", Due.under("sky 1 1;wish by 0:1=1;").bestRule(), 0);
        RainWishes one = Due.under("sky 1 1;wish by 0 weight 2:all=0;wish by 1 weight 3:all=1;");
        due.is("P24 rule 1", one.bestRule(), 1);
        RainWishes two = Due.under("sky 1 2;clouds 1;wish by 0 weight 3:all=0;wish by 0 weight 2:all=0;"
                + "wish by 1 weight 2:all=1;wish by 2 weight 2:all=1;wish by 3 weight 2:all=1;");
        due.is("P24 rule 2", two.bestRule(), 2);
        RainWishes three = Due.under("sky 1 2;clouds 1;wish by 0 weight 3:all=1;wish by 1 weight 2:all=0;"
                + "wish by 2 weight 2:all=0;");
        due.is("P24 rule 3", three.bestRule(), 3);
        due.is("P24 without a sky", new RainWishes().bestRule(), 0);
    }
}
