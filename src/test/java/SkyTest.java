import java.util.NoSuchElementException;

/** Promises 1 to 10: the text and what it tells, plans and their weather. */
public final class SkyTest {
    private static final Class<IllegalArgumentException> BAD = IllegalArgumentException.class;
    private static final Class<NoSuchElementException> NO_SUCH = NoSuchElementException.class;
    private static final Due due = new Due("SkyTest");

    public static void main(String[] args) {
        newObject();
        feed();
        sky();
        faultsOfTokens();
        faultsOfPlace();
        faultsOfBounds();
        faultsOfMany();
        leastKind();
        fault();
        wish();
        truths();
        weather();
        holds();
        why();
        granted();
        plans();
        due.end();
    }

    private static void newObject() {
        RainWishes x = new RainWishes();
        int[] counts = {0, 0, 0, 3, 0, 0, 0, 0, 0, 0, -1};
        for (int what = 0; what < counts.length; what++) {
            due.is("P1 count(" + what + ")", x.count(what), counts[what]);
        }
        for (int k = 0; k < 4; k++) {
            int tray = k;
            due.fails("P1 pour(" + k + ")", IllegalStateException.class, () -> x.pour(tray));
        }
        due.fails("P1 restore(0)", IllegalStateException.class, () -> x.restore(0));
        due.is("P1 fault(0)", x.fault(0), 0);
        due.is("P1 fault(1)", x.fault(1), -1);
        due.fails("P1 wish(0, 0)", NO_SUCH, () -> x.wish(0, 0));
    }

    private static void feed() {
        RainWishes x = new RainWishes();
        for (int k = 1; k <= 45; k++) {
            due.is("P2 feed", x.feed(0x20202020, 0, -1, 7, 8), 20 * k);
        }
        due.is("P2 feed, the tape full", x.feed(0, 0, 0, 0, 0), -1);
        due.is("P2 count(9), the tape full", x.count(9), 900);
        due.is("P2 the fifth byte is the first bad one", x.sky(900), -11);
        due.is("P2 its place", x.fault(1), 4);
        due.is("P2 the tape is empty", x.feed(0x736b7920, 0x3120323b, 0, 0, 0), 20);
        due.is("P2 the highest byte first", x.sky(8), 1);
        due.is("P2 parishes", x.count(1), 1);
        due.is("P2 days", x.count(2), 2);
        String blanks = " ".repeat(892);
        due.is("P2 900 bytes are told", Due.tell(x, "sky 3 4;" + blanks), 1);
        due.is("P2 cells", x.count(1) * x.count(2), 12);
    }

    private static void sky() {
        RainWishes x = new RainWishes();
        due.fails("P3 sky(-1)", BAD, () -> x.sky(-1));
        due.fails("P3 sky(1) without a tape", BAD, () -> x.sky(1));
        Due.feed(x, "sky 1 1;");
        due.fails("P3 sky(21)", BAD, () -> x.sky(21));
        due.is("P3 the tape stays", x.count(9), 20);
        due.is("P3 sky(20)", x.sky(20), 1);
        due.is("P3 the tape is empty then", x.count(9), 0);
        String text = "sky 2 3;clouds 1;wind 2;clouds 5;wish by 3 must:all>0;wind 1;wish by 1:1=1;";
        due.is("P3 all lines", Due.tell(x, text), 7);
        int[] counts = {7, 2, 3, 5, 1, 2, 2, 0, 0, 0};
        for (int what = 0; what < counts.length; what++) {
            due.is("P3 later ones strike: count(" + what + ")", x.count(what), counts[what]);
        }
        x.night(1);
        x.thank(2, 9);
        due.is("P3 a fault: all else stays", Due.tell(x, "sky 1 1;x"), -12);
        due.is("P3 deeds stay", x.count(8), 2);
        due.is("P3 dues stay", x.count(7), 2 - 9);
        due.is("P3 wishes stay", x.count(5), 2);
        due.is("P3 the tape is empty after a fault", x.count(9), 0);
        due.is("P3 a new sky", Due.tell(x, "sky 1 1;wish by 0:1=1;"), 2);
        due.is("P3 no deeds", x.count(8), 0);
        due.is("P3 nobody owes anything", x.count(7), 0);
        due.is("P3 all open", x.count(6), 1);
        due.is("P3 clouds as at first", x.count(3), 3);
        due.is("P3 no wind", x.count(4), 0);
        due.is("P3 blanks of both kinds, none where none is needed",
                Due.tell(x, "sky2 2;\n\nwish by 0weight 2must:wet0 1=1and on1>0;"), 2);
        due.is("P3 zeros ahead", Due.tell(x, "sky 002 01;wish by 000:007=7;"), 2);
        due.is("P3 granted", x.granted(0), 1);
        due.is("P3 only blanks and the sky", Due.tell(x, " \n sky 1 6 ; \n "), 1);
        String full = "sky 1 1;wish by 0:" + "0+".repeat(430) + "1=1;";
        for (int k = 0; k < 5; k++) {
            due.is("P3 as long as can be, over and over", Due.tell(x, full), 2);
            due.is("P3 its wish holds", x.granted(0), 1);
        }
    }

    private static void spoilt(String text, int kind, int place) {
        RainWishes x = new RainWishes();
        due.is("P3 sky: " + text, Due.tell(x, text), -10 - kind);
        due.is("P4 the fault of " + text, x.fault(0), kind);
        due.is("P4 its place in " + text, x.fault(1), place);
    }

    private static void faultsOfTokens() {
        spoilt("sky 1 1;\twind 1;", 1, 8);
        spoilt("Sky 1 1;", 1, 0);
        spoilt("sky 1 1;wish by 0:1&1;", 1, 19);
        spoilt("sky 1 1;wish by 0:1=1\u00e9;", 1, 21);
        spoilt("sky 1 1;wish by 0:1234=1;", 1, 18);
        spoilt("sky 1 1;wish by 0:1=0000001;", 1, 20);
        spoilt("sky 1 1;wish by 0:1=1,", 1, 21);
        spoilt("sky 1\r1;", 1, 5);
        spoilt("sky 1 1;wish by 0:1=1{", 1, 21);
        spoilt("sky 1 1;wish by 0:1=1`", 1, 21);
        spoilt("sky 1 1;wish by 0:1=1/", 1, 21);
        spoilt("sky 1 1;wish by 0:1=1\0;", 1, 21);
    }

    private static void faultsOfPlace() {
        spoilt("", 2, 0);
        spoilt("   ", 2, 3);
        spoilt("clouds 1;sky 1 1;", 2, 0);
        spoilt("sky 1 1;sky 1 1;", 2, 8);
        spoilt("skys 1 1;", 2, 0);
        spoilt("sky 1 1;zoo", 2, 8);
        spoilt("az", 2, 0);
        spoilt("sky 1;", 2, 5);
        spoilt("sky 1 1 1;", 2, 8);
        spoilt("sky 1 1", 2, 7);
        spoilt("sky 1 1  \n", 2, 10);
        spoilt("sky 1 1;;", 2, 8);
        spoilt("sky 1 1;clouds;", 2, 14);
        spoilt("sky 1 1;wind wind;", 2, 13);
        spoilt("sky 1 1;wish 0:1=1;", 2, 13);
        spoilt("sky 1 1;wish by 0 must weight 2:1=1;", 2, 23);
        spoilt("sky 1 1;wish by 0 must must:1=1;", 2, 23);
        spoilt("sky 1 1;wish by 0 weight:1=1;", 2, 24);
        spoilt("sky 1 1;wish by 0 1=1;", 2, 18);
        spoilt("sky 1 1;wish by 0:;", 2, 18);
        spoilt("sky 1 1;wish by 0:1;", 2, 19);
        spoilt("sky 1 1;wish by 0:(1=1);", 2, 20);
        spoilt("sky 1 1;wish by 0:[1]=1;", 2, 20);
        spoilt("sky 1 1;wish by 0:1=1=1;", 2, 21);
        spoilt("sky 1 1;wish by 0:1=1<1;", 2, 21);
        spoilt("sky 1 1;wish by 0:1=not 1;", 2, 20);
        spoilt("sky 1 1;wish by 0:1=[1];", 2, 20);
        spoilt("sky 1 1;wish by 0:-1=1;", 2, 18);
        spoilt("sky 1 1;wish by 0:1+=1;", 2, 20);
        spoilt("sky 1 1;wish by 0:1*-1=1;", 2, 20);
        spoilt("sky 1 1;wish by 0:1=1 and;", 2, 25);
        spoilt("sky 1 1;wish by 0:1=1 and or 1=1;", 2, 26);
        spoilt("sky 1 1;wish by 0:[1=1];wind 0 0;", 2, 31);
        spoilt("sky 1 1;wish by 0:[1=1;", 2, 22);
        spoilt("sky 1 1;wish by 0:1=1];", 2, 21);
        spoilt("sky 1 1;wish by 0:(1 and 1)=1;", 2, 21);
        spoilt("sky 1 1;wish by 0:(1]=1;", 2, 20);
        spoilt("sky 1 1;wish by 0:[1=1)=1;", 2, 22);
        spoilt("sky 1 1;wish by 0:1)=1;", 2, 19);
        spoilt("sky 1 1;wish by 0:[1=1]+1=1;", 2, 23);
        spoilt("sky 1 1;wish by 0:[1=1]=1;", 2, 23);
        spoilt("sky 1 1;wish by 0:()=1;", 2, 19);
        spoilt("sky 1 1;wish by 0:all all=1;", 2, 22);
        spoilt("sky 1 1;wish by 0:wet 0=1;", 2, 23);
        spoilt("sky 1 1;wish by 0:of all=1;", 2, 21);
        spoilt("sky 1 1;wish by 0:wets 0 0=1;", 2, 18);
        spoilt("sky 1 1;wish by 0:1=1", 2, 21);
        spoilt("sky 1 1;wish by 0:1=1 ", 2, 22);
        spoilt("sky 1 1;wish by 0:1=(1", 2, 22);
        spoilt("sky 1 1;wish by 0:1=1andwet 0 0=1;", 2, 21);
    }

    private static void faultsOfBounds() {
        spoilt("sky 0 1;", 3, 4);
        spoilt("sky 5 1;", 3, 4);
        spoilt("sky 1 0;", 3, 6);
        spoilt("sky 1 7;", 3, 6);
        spoilt("sky 3 5;", 3, 6);
        spoilt("sky 4 4;", 3, 6);
        spoilt("sky 1 1;clouds 7;", 3, 15);
        spoilt("sky 1 1;wind 4;", 3, 13);
        spoilt("sky 1 1;wish by 6:1=1;", 3, 16);
        spoilt("sky 1 1;wish by 0 weight 0:1=1;", 3, 25);
        spoilt("sky 1 1;wish by 0 weight 10:1=1;", 3, 25);
        spoilt("sky 2 3;wish by 0:wet 2 0=1;", 3, 22);
        spoilt("sky 2 3;wish by 0:wet 1 3=1;", 3, 24);
        spoilt("sky 2 3;wish by 0:of 2=1;", 3, 21);
        spoilt("sky 2 3;wish by 0:on 3=1;", 3, 21);
        RainWishes x = new RainWishes();
        due.is("P3 the largest: 2 6", Due.tell(x, "sky 2 6;clouds 6;wind 3;"), 3);
        due.is("P3 the largest: 4 3", Due.tell(x, "sky 4 3;clouds 0;wind 0;"), 3);
        due.is("P3 the largest person, weight, place",
                Due.tell(x, "sky 4 3;wish by 5 weight 9:wet 3 2=1 or of 3=1 or on 2=999;"), 2);
    }

    private static void faultsOfMany() {
        String ten = "sky 1 1;" + "wish by 0:1=1;".repeat(10);
        RainWishes x = new RainWishes();
        due.is("P3 ten wishes", Due.tell(x, ten), 11);
        spoilt(ten + "wish by 9:", 4, 148);
        spoilt(ten + "wishes", 2, 148);
        due.is("P3 six within one another",
                Due.tell(x, "sky 1 1;wish by 0:not [not [((1))=1 and not not 1=2]];"), 2);
        spoilt("sky 1 1;wish by 0:not not not not not not not 1=1;", 4, 42);
        spoilt("sky 1 1;wish by 0:[[[[[[[1=1]]]]]]];", 4, 24);
        spoilt("sky 1 1;wish by 0:(((((((1)))))))=1;", 4, 24);
        spoilt("sky 1 1;wish by 0:1=(((((((1)))))));", 4, 26);
        spoilt("sky 1 1;wish by 0:not [not [not [(1)=1]]];", 4, 33);
        due.is("P3 those side by side are not within one another", Due.tell(x,
                "sky 1 1;wish by 0:not not not 1=1 and not not not not 1=1 or [[[1=1]]]and[[[[1=1]]]];"), 2);
        due.is("P3 six, closed, and six again", Due.tell(x,
                "sky 1 1;wish by 0:[[[not not not 1=1]]] or not not not [[[1=1]]];wish by 0:((((((1))))))=1;"), 3);
        spoilt("sky 1 1;wish by 0:((((((1 not", 2, 26);
        spoilt("sky 1 1;wish by 0:((((((not", 2, 24);
        spoilt("sky 1 1;wish by 0:((((((1(", 2, 25);
    }

    private static void leastKind() {
        spoilt("sky 1 1 1000", 1, 8);
        spoilt("sky 9 9999;", 3, 4);
        spoilt("sky 1000 1;", 1, 4);
        spoilt("sky 1 1;wish by 7000:1=1;", 1, 16);
        spoilt("?", 1, 0);
    }

    private static void fault() {
        RainWishes x = new RainWishes();
        Due.tell(x, "sky 1 1;!");
        due.is("P4 fault(0)", x.fault(0), 1);
        due.is("P4 fault(1)", x.fault(1), 8);
        due.is("P4 fault(2)", x.fault(2), -1);
        due.is("P4 fault(-1)", x.fault(-1), -1);
        due.fails("P4 a sky that throws", BAD, () -> x.sky(1));
        due.is("P4 it changes nothing", x.fault(0), 1);
        Due.tell(x, "sky 1 1;");
        due.is("P4 fault(0) without", x.fault(0), 0);
        due.is("P4 fault(1) without", x.fault(1), -1);
    }

    private static void wish() {
        RainWishes x = Due.under("sky 2 2;wish by 4 weight 7:all=2;wish by 5 must:on 0=0;wish by 0:1=2;");
        int[][] wants = {{4, 7, 0, 1, 0, 6}, {5, 1, 1, 1, 0, 4}, {0, 1, 0, 1, 0, 0}};
        for (int i = 0; i < 3; i++) {
            for (int what = 0; what < 6; what++) {
                due.is("P5 wish(" + i + ", " + what + ")", x.wish(i, what), wants[i][what]);
            }
        }
        x.night(10);
        due.is("P5 granted", x.wish(0, 3), 0);
        due.is("P5 older", x.wish(2, 4), 1);
        due.is("P5 granted, no older", x.wish(0, 4), 0);
        due.fails("P5 wish(3, 0)", NO_SUCH, () -> x.wish(3, 0));
        due.fails("P5 wish(-1, 9)", NO_SUCH, () -> x.wish(-1, 9));
        due.fails("P5 wish(0, 6)", BAD, () -> x.wish(0, 6));
        due.fails("P5 wish(0, -1)", BAD, () -> x.wish(0, -1));
        RainWishes y = Due.under("sky 3 4;wish by 0:all<999;wish by 0:wet 2 3=1;");
        due.is("P5 all weathers of twelve cells", y.wish(0, 5), 4096);
        due.is("P5 half of them", y.wish(1, 5), 2048);
    }

    /** Whether a truth holds in a sky of 2 parishes by 2 days, in the weather 7. */
    private static void truth(String truth, boolean want) {
        RainWishes x = Due.under("sky 2 2;wish by 0:" + truth + ";");
        due.is("P7 holds: " + truth, x.holds(0, 7) ? 1 : 0, want ? 1 : 0);
    }

    private static void truths() {
        truth("wet 0 0=1 and wet 0 1=1 and wet 1 0=1 and wet 1 1=0", true);
        truth("of 0=2 and of 1=1 and on 0=2 and on 1=1 and all=3", true);
        truth("1=1 or 1=2 and 1=2", true);
        truth("[1=1 or 1=2] and 1=2", false);
        truth("not 1=2 and 1=2", false);
        truth("not [1=2 and 1=2]", true);
        truth("not not 1=1", true);
        truth("not 1=1 or 1=1", true);
        truth("1+2*3=7", true);
        truth("(1+2)*3=9", true);
        truth("9-4-3=2", true);
        truth("9-(4-3)=8", true);
        truth("2*3+4*5=26", true);
        truth("2*(3+4)*5=70", true);
        truth("10-2*3+1=5", true);
        truth("1<2 and not 2<1 and 2>1 and not 2<2 and not 2>2", true);
        truth("0-3<0-2", true);
        truth("999*999=998*998+998*2+1", true);
        truth("999*999*9=999*999+999*2+1", true);
        truth("999*999*2-1<999*999*2", true);
        truth("999*999+999+999=999*999+999+999+1", false);
        truth("999*999+999+999+1=999*999+999+999+2", true);
        truth("999*999+999+999+999=999*999+999+999+998", true);
        truth("0-999*999-999-999-999=0-999*999-999-999-9", true);
        truth("0-999*999*9=0-999*999*8", true);
        truth("(0-999*999*9)*(0-999*999*9)=999*999*9", true);
        truth("(0-999*999*9)*999=0-999*999*9", true);
        truth("999*999*9-999*999*9=0", true);
        truth("999*999*9*0=0", true);
        truth("all*all=9 and all-5<0", true);
        truth("1=1 and(1)=1 or(2)=1", true);
        truth("[(1)=1]and[not(2)=1]", true);
    }

    private static void weather() {
        RainWishes none = new RainWishes();
        due.is("P6 without a sky", none.weather(0), 0);
        due.fails("P6 no cells", BAD, () -> none.weather(1));
        RainWishes still = Due.under("sky 2 3;");
        due.is("P6 without wind", still.weather(0b010101), 0b010101);
        RainWishes one = Due.under("sky 3 4;wind 1;");
        due.is("P6 wind 1", one.weather(1), 1 | 1 << 5);
        due.is("P6 only the clouds are blown", one.weather(1 | 1 << 5), 1 | 1 << 5 | 1 << 10);
        due.is("P6 the last day", one.weather(1 << 3), 1 << 3);
        due.is("P6 the last parish", one.weather(1 << 8), 1 << 8);
        due.is("P6 a cell that is there already", one.weather(1 | 1 << 5 | 1 << 10), 1 | 1 << 5 | 1 << 10);
        RainWishes two = Due.under("sky 4 3;wind 2;");
        due.is("P6 wind 2", two.weather(1 << 4), 1 << 4 | 1 << 11);
        due.is("P6 wind 2, too far", two.weather(1 << 6), 1 << 6);
        RainWishes three = Due.under("sky 4 2;wind 3;");
        due.is("P6 wind 3", three.weather(1), 1 | 1 << 7);
        due.is("P6 wind 3, all", three.weather(255), 255);
        due.fails("P6 other cells", BAD, () -> three.weather(256));
        due.fails("P6 below 0", BAD, () -> three.weather(-1));
        due.is("P6 clouds are no matter", Due.under("sky 2 2;clouds 0;").weather(15), 15);
    }

    private static void holds() {
        RainWishes x = Due.under("sky 2 2;wind 1;wish by 0:all=1;");
        due.holds("P7 a weather is not blown", x.holds(0, 1));
        due.is("P7 holds(0, 3)", x.holds(0, 3) ? 1 : 0, 0);
        x.withdraw(0);
        due.holds("P7 open or not", x.holds(0, 8));
        due.fails("P7 holds(1, 0)", NO_SUCH, () -> x.holds(1, 0));
        due.fails("P7 holds(1, 16)", NO_SUCH, () -> x.holds(1, 16));
        due.fails("P7 holds(0, 16)", BAD, () -> x.holds(0, 16));
        due.fails("P7 holds(0, -1)", BAD, () -> x.holds(0, -1));
    }

    private static void why() {
        RainWishes x = Due.under("sky 2 2;clouds 1;wish by 0 must:wet 0 0=1;");
        due.is("P8 why(1)", x.why(1), 0);
        due.is("P8 why(0)", x.why(0), 3);
        due.is("P8 why(6)", x.why(6), 2);
        due.is("P8 why(16)", x.why(16), 1);
        due.is("P8 why(-8)", x.why(-8), 1);
        x.withdraw(0);
        due.is("P8 a must that is not open", x.why(0), 0);
        due.is("P8 a must by the wind", Due.under("sky 2 2;wind 1;wish by 0 must:wet 1 1=1;").why(1), 0);
        due.is("P8 without a sky", new RainWishes().why(0), 0);
        due.is("P8 without cells", new RainWishes().why(1), 1);
    }

    private static void granted() {
        RainWishes x = Due.under("sky 1 3;clouds 1;wish by 0 must:all>1;wish by 0:all>0;wish by 1:wet 0 2=1;");
        due.is("P9 a plan that can't be", x.granted(7), 7);
        due.is("P9 granted(1)", x.granted(1), 2);
        due.is("P9 granted(0)", x.granted(0), 0);
        x.withdraw(1);
        due.is("P9 only open ones", x.granted(7), 5);
        due.fails("P9 granted(8)", BAD, () -> x.granted(8));
        due.fails("P9 granted(-1)", BAD, () -> x.granted(-1));
        due.is("P9 by the wind", Due.under("sky 2 2;wind 1;wish by 0:wet 1 1=1;").granted(1), 1);
    }

    private static void plans() {
        due.is("P10 without a sky", new RainWishes().plans(), 1);
        due.is("P10 no clouds", Due.under("sky 3 4;clouds 0;").plans(), 1);
        due.is("P10 one cloud", Due.under("sky 3 4;clouds 1;").plans(), 13);
        due.is("P10 six clouds", Due.under("sky 3 4;clouds 6;").plans(), 2510);
        due.is("P10 a must", Due.under("sky 3 4;clouds 2;wish by 0 must:wet 1 1=1;").plans(), 12);
        due.is("P10 none can be", Due.under("sky 1 1;wish by 0 must:1=2;").plans(), 0);
    }
}
