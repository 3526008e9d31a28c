/**
 * Each sentence of the document that bounds the tape, the text and its faults: just within, just beyond.
 * The sentence stands above its test.
 */
public final class TextEdgesTest {
    private static final Class<IllegalArgumentException> BAD = IllegalArgumentException.class;
    private static final int BLANKS = 0x20202020;
    private static final String WISH = "sky 2 2;wish by 0:";
    /** 1000, 1,000,000 and 999,999, each kept within all along. */
    private static final String THOUSAND = "(999+1)";
    private static final String MILLION = THOUSAND + "*" + THOUSAND;
    private static final String NEARLY = "999*999+999+999";
    private static final Due due = new Due("TextEdgesTest");

    public static void main(String[] args) {
        newObject();
        highestFirst();
        tapeFull();
        firstBytes();
        tapeEmptyThen();
        lines();
        longestText();
        newSkyOwesNothing();
        faultAtFirst();
        faultOfTheLatest();
        faultOthers();
        cellsInAll();
        cloudsAndWind();
        laterOnesStrike();
        personAndWeight();
        tenWishes();
        placesInTheSky();
        wetOrDry();
        sumsKept();
        differencesKept();
        productsKept();
        keptEach();
        everyByte();
        asLongAsTheyGo();
        digits();
        theEnd();
        skyFirstAndOnce();
        firstAlongTheText();
        leastKind();
        sixWithinOneAnother();
        notWithinOneAnother();
        due.end();
    }

    private static void told(String text, int lines) {
        RainWishes x = new RainWishes();
        due.is("sky of " + text, Due.tell(x, text), lines);
        due.is("fault(0) of " + text, x.fault(0), 0);
        due.is("fault(1) of " + text, x.fault(1), -1);
    }

    private static void spoilt(String text, int kind, int place) {
        RainWishes x = new RainWishes();
        due.is("sky of " + text, Due.tell(x, text), -10 - kind);
        due.is("fault(0) of " + text, x.fault(0), kind);
        due.is("fault(1) of " + text, x.fault(1), place);
    }

    private static void always(String truth, boolean want) {
        RainWishes x = Due.under(WISH + truth + ";");
        due.is("in how many weathers: " + truth, x.wish(0, 5), want ? 16 : 0);
    }

    /** P1: No PARISHES; TRAYS are MISSING; an empty tape. */
    private static void newObject() {
        RainWishes x = new RainWishes();
        due.is("P1 no parishes", x.count(1), 0);
        due.is("P1 an empty tape", x.count(9), 0);
        due.fails("P1 not one byte", BAD, () -> x.sky(1));
        for (int k = 0; k < 4; k++) {
            int tray = k;
            due.fails("P1 missing: tray " + k, IllegalStateException.class, () -> x.write(tray, 0, 0));
        }
    }

    /** P2: Twenty bytes come behind those on the tape, the highest of each int first. */
    private static void highestFirst() {
        for (int at = 0; at < 40; at++) {
            RainWishes x = new RainWishes();
            StringBuilder text = new StringBuilder(" ".repeat(40));
            text.setCharAt(at, '?');
            due.is("P2 forty bytes", Due.feed(x, text.toString()), 40);
            due.is("P2 told", x.sky(40), -11);
            due.is("P2 the place of the one that stands out", x.fault(1), at);
        }
        RainWishes x = new RainWishes();
        x.feed(BLANKS, BLANKS, BLANKS, BLANKS, 0x202020ff);
        due.is("P2 a byte of 255", x.sky(20), -11);
        due.is("P2 its place", x.fault(1), 19);
    }

    /** P2: NONE, and nothing changes, if there would be more than 900. */
    private static void tapeFull() {
        RainWishes x = new RainWishes();
        String text = "sky 1 1;" + " ".repeat(872);
        due.is("P2 880 bytes", Due.feed(x, text), 880);
        due.is("P2 900 bytes", x.feed(BLANKS, BLANKS, BLANKS, BLANKS, 0x20202021), 900);
        for (int k = 0; k < 3; k++) {
            due.is("P2 beyond 900", x.feed(0x21212121, 0x21212121, 0, 0, 0), -1);
            due.is("P2 900 bytes still", x.count(9), 900);
        }
        due.is("P2 they are as they were", x.sky(900), -11);
        due.is("P2 the last of them", x.fault(1), 899);
        due.is("P2 the tape is empty: there is room", x.feed(BLANKS, BLANKS, BLANKS, BLANKS, BLANKS), 20);
    }

    /** P3: The first n bytes of the tape; IllegalArgumentException: n is below 0 or above what it has. */
    private static void firstBytes() {
        int[] places = {0, 0, 0, 3, 4, 5, 6, 7, -1, 8, 8};
        for (int n = 0; n < places.length; n++) {
            RainWishes x = new RainWishes();
            Due.feed(x, "sky 1 1;no");
            due.is("P3 sky(" + n + ")", x.sky(n), n == 8 ? 1 : -12);
            due.is("P3 the place for " + n, x.fault(1), places[n]);
        }
        for (int n : new int[] {-1, 21, 40, 900, 901, Integer.MIN_VALUE, Integer.MAX_VALUE}) {
            RainWishes x = new RainWishes();
            Due.feed(x, "sky 1 1;");
            due.fails("P3 sky(" + n + ") of twenty", BAD, () -> x.sky(n));
            due.is("P3 twenty still", x.count(9), 20);
            due.is("P3 all twenty", x.sky(20), 1);
        }
        RainWishes none = new RainWishes();
        due.is("P3 sky(0) of an empty tape: no text", none.sky(0), -12);
        due.is("P3 its end", none.fault(1), 0);
    }

    /** P3: the tape (which is empty then). */
    private static void tapeEmptyThen() {
        RainWishes x = new RainWishes();
        Due.feed(x, "sky 1 1;wind 1;wind 2;wind 3;");
        due.is("P3 eight bytes of it", x.sky(8), 1);
        due.is("P3 empty then", x.count(9), 0);
        due.fails("P3 the others are gone", BAD, () -> x.sky(1));
        Due.feed(x, "sky 1 2;!");
        due.is("P3 a fault", x.sky(9), -11);
        due.is("P3 empty then, too", x.count(9), 0);
        due.is("P3 only what comes now", Due.tell(x, "sky 1 3;"), 1);
        due.is("P3 its days", x.count(2), 3);
    }

    /** P3: how many LINES (sky, too). */
    private static void lines() {
        told("sky 1 1;", 1);
        told("sky 1 1;wind 0;", 2);
        told("sky 1 1;" + "wind 0;".repeat(127), 128);
        told("sky 1 1;" + "wish by 0:1=1;".repeat(10) + "clouds 0;".repeat(20), 31);
    }

    /** THE SKY is a TEXT of at most 900 bytes (without one: no PARISHES). */
    private static void longestText() {
        String wish = "sky 1 1;wish by 0:1" + "+1".repeat(438) + "=9;";
        RainWishes x = new RainWishes();
        due.is("a text of 898 bytes", Due.tell(x, wish), 2);
        String full = wish + "\n ";
        due.is("900 of them", full.length(), 900);
        due.is("a text of 900 bytes", Due.tell(x, full), 2);
        due.is("nothing of it is lost", x.wish(0, 5), 0);
        due.is("a fault at its last", Due.tell(x, wish + " +"), -12);
        due.is("its place", x.fault(1), 899);
        due.is("the end of 900 bytes", Due.tell(x, wish.substring(0, 897) + "   "), -12);
        due.is("its place", x.fault(1), 900);
        due.is("without a text no parishes", new RainWishes().count(1), 0);
    }

    /** P3: nobody owes anything, no DEEDS; All WISHES are OPEN at first, their AGE 0. */
    private static void newSkyOwesNothing() {
        RainWishes x = Due.under("sky 1 2;wish by 0 weight 4:all=1;wish by 5:all=2;");
        x.night(1);
        x.thank(5, 99);
        x.withdraw(1);
        due.is("P3 three deeds before", x.count(8), 3);
        Due.tell(x, "sky 1 2;wish by 0 weight 4:all=1;wish by 5:all=2;");
        due.is("P3 no deeds", x.count(8), 0);
        due.fails("P3 none to undo", BAD, () -> x.undo(1));
        for (int person = 0; person < 6; person++) {
            due.is("P3 nobody owes", x.owes(person), 0);
        }
        for (int i = 0; i < 2; i++) {
            due.is("all are open", x.wish(i, 3), 1);
            due.is("their age", x.wish(i, 4), 0);
        }
    }

    /** P4: the FAULT (0 without, and at first), its place (NONE without). */
    private static void faultAtFirst() {
        RainWishes x = new RainWishes();
        due.is("P4 at first", x.fault(0), 0);
        due.is("P4 its place at first", x.fault(1), -1);
        Due.tell(x, "!");
        due.is("P4 place 0 is one", x.fault(1), 0);
        Due.tell(x, "sky 1 1;");
        due.is("P4 without", x.fault(0), 0);
        due.is("P4 its place without", x.fault(1), -1);
    }

    /** P4: Of the latest sky() that threw nothing. */
    private static void faultOfTheLatest() {
        RainWishes x = new RainWishes();
        Due.tell(x, "sky 1 1;clouds 9;");
        Due.feed(x, "sky 1 1;");
        due.fails("P4 a sky that throws", BAD, () -> x.sky(21));
        due.is("P4 the one before", x.fault(0), 3);
        due.is("P4 its place", x.fault(1), 15);
        x.sky(8);
        due.is("P4 the latest", x.fault(0), 0);
        due.fails("P4 another that throws", BAD, () -> x.sky(-1));
        due.is("P4 the latest still", x.fault(1), -1);
    }

    /** P4: NONE for others. */
    private static void faultOthers() {
        RainWishes x = new RainWishes();
        Due.tell(x, "sky 1 1;clouds 9;");
        for (int what : new int[] {-1, 2, 10, Integer.MIN_VALUE, Integer.MAX_VALUE}) {
            due.is("P4 fault(" + what + ")", x.fault(what), -1);
        }
    }

    /** PARISHES 1 to 4, DAYS 1 to 6, 12 CELLS in all at most (else the second N is out of its bounds). */
    private static void cellsInAll() {
        for (int parishes = 0; parishes <= 7; parishes++) {
            for (int days = 0; days <= 13; days++) {
                String text = "sky " + parishes + " " + days + ";";
                if (parishes < 1 || parishes > 4) {
                    spoilt(text, 3, 4);
                } else if (days < 1 || days > 6 || parishes * days > 12) {
                    spoilt(text, 3, 6);
                } else {
                    told(text, 1);
                    due.is("parishes of " + text, Due.under(text).count(1), parishes);
                    due.is("days of " + text, Due.under(text).count(2), days);
                }
            }
        }
        spoilt("sky 999 1;", 3, 4);
        spoilt("sky 1 999;", 3, 6);
        told("sky 004 003;", 1);
        spoilt("sky 004 004;", 3, 8);
    }

    /** clouds: 0 to 6 (3). wind: 0 to 3 (0). */
    private static void cloudsAndWind() {
        due.is("clouds when none are told", Due.under("sky 1 1;").count(3), 3);
        due.is("wind when none is told", Due.under("sky 1 1;").count(4), 0);
        for (int n = 0; n <= 12; n++) {
            if (n <= 6) {
                due.is("clouds", Due.under("sky 1 1;clouds " + n + ";").count(3), n);
            } else {
                spoilt("sky 1 1;clouds " + n + ";", 3, 15);
            }
            if (n <= 3) {
                due.is("wind", Due.under("sky 1 1;wind " + n + ";").count(4), n);
            } else {
                spoilt("sky 1 1;wind " + n + ";", 3, 13);
            }
        }
        spoilt("sky 1 1;clouds 999;", 3, 15);
        spoilt("sky 1 1;wind 999;", 3, 13);
    }

    /** Later ones strike. */
    private static void laterOnesStrike() {
        RainWishes x = Due.under("sky 1 1;clouds 6;wind 3;clouds 0;wind 0;");
        due.is("the later clouds", x.count(3), 0);
        due.is("the later wind", x.count(4), 0);
        due.is("lines all the same", x.count(0), 5);
        spoilt("sky 1 1;clouds 7;clouds 1;", 3, 15);
        RainWishes late = Due.under("sky 2 2;wish by 0 must:wet 1 1=1;wind 1;clouds 1;");
        due.is("wind told behind the wish", late.why(1), 0);
        due.is("clouds told behind the wish", late.why(3), 2);
    }

    /** by a PERSON 0 to 5, weight 1 to 9 (1); must. */
    private static void personAndWeight() {
        for (int n = 0; n <= 12; n++) {
            String by = "sky 1 1;wish by " + n + ":1=1;";
            String weight = "sky 1 1;wish by 0 weight " + n + ":1=1;";
            if (n <= 5) {
                due.is(by, Due.under(by).wish(0, 0), n);
            } else {
                spoilt(by, 3, 16);
            }
            if (n >= 1 && n <= 9) {
                due.is(weight, Due.under(weight).wish(0, 1), n);
            } else {
                spoilt(weight, 3, 25);
            }
        }
        spoilt("sky 1 1;wish by 999:1=1;", 3, 16);
        spoilt("sky 1 1;wish by 0 weight 999:1=1;", 3, 25);
        RainWishes x = Due.under("sky 1 1;wish by 0:1=1;wish by 0 must:1=1;wish by 0 weight 1 must:1=1;");
        due.is("weight when none is told", x.wish(0, 1), 1);
        due.is("weight when only must is told", x.wish(1, 1), 1);
        due.is("no must", x.wish(0, 2), 0);
        due.is("must", x.wish(1, 2), 1);
        due.is("weight and must", x.wish(2, 2), 1);
    }

    /** WISHES are numbered from 0 on as they come, 10 at most; 4 the first TOKEN of an 11th wish. */
    private static void tenWishes() {
        StringBuilder nine = new StringBuilder("sky 1 1;");
        for (int k = 0; k < 9; k++) {
            nine.append("wish by 0 weight ").append(k + 1).append(":1=1;");
        }
        RainWishes x = Due.under(nine + "wish by 5 weight 9:1=1;");
        due.is("ten wishes", x.count(5), 10);
        for (int k = 0; k < 9; k++) {
            due.is("as they come", x.wish(k, 1), k + 1);
        }
        due.is("the tenth", x.wish(9, 0), 5);
        String ten = nine + "wish by 5:1=1;";
        told(ten + "clouds 1;wind 1;", 13);
        spoilt(ten + "wish by 0:1=1;", 4, ten.length());
        spoilt(ten + "wish", 4, ten.length());
        spoilt(ten + " \nwish?", 4, ten.length() + 2);
        spoilt(ten + "clouds 1;wish by 9999", 4, ten.length() + 9);
        spoilt(ten + "clouds 7;wish by 0:1=1;", 3, ten.length() + 7);
    }

    /** wet: a PARISH, a DAY; of: a PARISH; on: a DAY (both from 0 on). */
    private static void placesInTheSky() {
        for (int parishes = 1; parishes <= 4; parishes++) {
            for (int days = 1; days <= 6 && parishes * days <= 12; days++) {
                String sky = "sky " + parishes + " " + days + ";wish by 0:";
                told(sky + "wet 0 0=1;", 2);
                told(sky + "wet " + (parishes - 1) + " " + (days - 1) + "=1;", 2);
                told(sky + "of " + (parishes - 1) + "+on " + (days - 1) + "=1;", 2);
                spoilt(sky + "wet " + parishes + " 0=1;", 3, 22);
                spoilt(sky + "wet 0 " + days + "=1;", 3, 24);
                spoilt(sky + "of " + parishes + "=1;", 3, 21);
                spoilt(sky + "on " + days + "=1;", 3, 21);
            }
        }
        spoilt(WISH + "wet 999 0=1;", 3, 22);
        spoilt(WISH + "wet 0 999=1;", 3, 24);
        spoilt(WISH + "of 999=1;", 3, 21);
        spoilt(WISH + "on 999=1;", 3, 21);
        told(WISH + "999=1;", 2);
    }

    /** 1 if it is WET, else 0; how many DAYS of a PARISH, PARISHES on a DAY, CELLS: none and all. */
    private static void wetOrDry() {
        for (int parishes = 1; parishes <= 4; parishes++) {
            for (int days = 1; days <= 6 && parishes * days <= 12; days++) {
                int cells = parishes * days;
                String last = "wet " + (parishes - 1) + " " + (days - 1);
                RainWishes x = Due.under("sky " + parishes + " " + days + ";wish by 0:of " + (parishes - 1) + "=" + days
                        + " and on " + (days - 1) + "=" + parishes + " and all=" + cells + " and " + last + "=1;"
                        + "wish by 0:of 0=0 and on 0=0 and all=0 and " + last + "=0;wish by 0:" + last + "=1;");
                int full = (1 << cells) - 1;
                due.holds("all cells are wet", x.holds(0, full));
                due.holds("no cell is wet", x.holds(1, 0));
                due.is("one less than all", x.holds(0, full >> 1) ? 1 : 0, 0);
                due.is("one is wet", x.holds(1, 1 << cells - 1) ? 1 : 0, 0);
                due.holds("days times the parish, and the day", x.holds(2, 1 << cells - 1));
                due.is("any other is", x.holds(2, full >> 1) ? 1 : 0, 0);
            }
        }
    }

    /** each + - * kept from -1,000,000 to 1,000,000: sums. */
    private static void sumsKept() {
        always(NEARLY + "+1=" + MILLION, true);
        always(NEARLY + "<" + NEARLY + "+1", true);
        always(NEARLY + "+1=" + NEARLY + "+2", true);
        always(NEARLY + "+999=" + MILLION, true);
        always(MILLION + "+0=" + MILLION, true);
        always(MILLION + "+1=" + MILLION, true);
        always(MILLION + "+" + MILLION + "=" + MILLION, true);
        always("0-" + MILLION + "+1>0-" + MILLION, true);
        always("(0-" + MILLION + ")+(0-1)=0-" + MILLION, true);
        always("(0-" + MILLION + ")+(0-" + MILLION + ")=0-" + MILLION, true);
    }

    /** each + - * kept from -1,000,000 to 1,000,000: differences. */
    private static void differencesKept() {
        always("0-(" + NEARLY + ")-1=0-" + MILLION, true);
        always("0-(" + NEARLY + ")>0-(" + NEARLY + ")-1", true);
        always("0-(" + NEARLY + ")-1=0-(" + NEARLY + ")-2", true);
        always("0-" + MILLION + "-" + MILLION + "=0-" + MILLION, true);
        always(MILLION + "-(0-1)=" + MILLION, true);
        always(MILLION + "-(0-" + MILLION + ")=" + MILLION, true);
        always(MILLION + "-1=" + NEARLY, true);
    }

    /** each + - * kept from -1,000,000 to 1,000,000: products, those beyond an int, too. */
    private static void productsKept() {
        always(MILLION + "-(" + NEARLY + ")=1", true);
        always(THOUSAND + "*999<" + MILLION, true);
        always(THOUSAND + "*(999+2)=" + MILLION, true);
        always("(0-999-1)*" + THOUSAND + "=0-" + MILLION, true);
        always("(0-999-1)*" + THOUSAND + "+(" + NEARLY + ")=0-1", true);
        always("(0-999-1)*(999+2)=0-" + MILLION, true);
        always("(0-999-1)*(0-999-1)=" + MILLION, true);
        always("(0-999-1)*(0-999-2)=" + MILLION, true);
        always("(" + MILLION + ")*(" + MILLION + ")=" + MILLION, true);
        always("(" + MILLION + ")*(0-" + MILLION + ")=0-" + MILLION, true);
        always("(0-" + MILLION + ")*(0-" + MILLION + ")=" + MILLION, true);
        always("(0-" + MILLION + ")*0=0", true);
    }

    /** each + - * kept: on the way, not only at the end. */
    private static void keptEach() {
        always(MILLION + "+" + MILLION + "-" + MILLION + "=0", true);
        always("0-" + MILLION + "-" + MILLION + "+" + MILLION + "=0", true);
        always("999*999*999-999*999*999+1=1", true);
        always(THOUSAND + "*" + THOUSAND + "*" + THOUSAND + "-" + MILLION + "=0", true);
        always(MILLION + "-" + MILLION + "+" + MILLION + "=" + MILLION, true);
    }

    /** words (small letters), N, the signs ; : + - * ( ) [ ] = < >, blanks (10, 32); 1 no TOKEN begins so. */
    private static void everyByte() {
        for (int sign = 0; sign < 256; sign++) {
            boolean letter = sign >= 'a' && sign <= 'z';
            boolean digit = sign >= '0' && sign <= '9';
            String text = "sky 1 1;" + (char) sign;
            if (sign == 10 || sign == 32) {
                told(text, 1);
                told("sky" + (char) sign + "1" + (char) sign + "1" + (char) sign + ";", 1);
            } else if (letter || digit || ";:+-*()[]=<>".indexOf(sign) >= 0) {
                spoilt(text, 2, 8);
            } else {
                spoilt(text, 1, 8);
                spoilt("sky" + (char) sign + "1 1;", 1, 3);
                spoilt((char) sign + "sky 1 1;", 1, 0);
                spoilt("sky 1" + (char) sign + "1;", 1, 5);
            }
        }
    }

    /** TOKENS, as long as they go, between them blanks. */
    private static void asLongAsTheyGo() {
        told("sky1 1;clouds1;wind1;wish by0weight1must:wet0 0+of0+on0+all=1and[1=1]or not(1)=1;", 4);
        told("sky\n1\n1\n;\nwish\nby\n0\n:\n1\n=\n1\n;\n", 2);
        spoilt("sky 11;", 3, 4);
        spoilt("sk y 1 1;", 2, 0);
        spoilt("sky 1 1;cloud s 1;", 2, 8);
        spoilt("sky 1 1;cloudss 1;", 2, 8);
        spoilt("sky 1 1;wishby 0:1=1;", 2, 8);
        spoilt("sky 1 1;wish by 0:notnot 1=1;", 2, 18);
        spoilt("sky 1 1;wish by 0:wet 00=1;", 2, 24);
        spoilt("sky 1 1;wish by 0:1=1orall=1;", 2, 21);
        told("sky 1 1;wish by 0:1=1or all=1;", 2);
    }

    /** N (1 to 3 digits); 1 no TOKEN begins so (4 digits and more: at their first). */
    private static void digits() {
        told("sky 1 1;wish by 0:9=99 or 99=999;", 2);
        told("sky 1 1;wish by 0:001=000;", 2);
        spoilt("sky 1 1;wish by 0:1=1000;", 1, 20);
        spoilt("sky 1 1;wish by 0:1=0001;", 1, 20);
        spoilt("sky 0001 1;", 1, 4);
        spoilt("sky 1 1;wish by 0:1=99999999999999999999;", 1, 20);
        spoilt("sky 1 1;" + "1".repeat(892), 1, 8);
        RainWishes x = Due.under(WISH + "999+1=" + "998+2;");
        due.is("three digits are read", x.wish(0, 5), 16);
    }

    /** 2 it can't stand there (the end: the text's length). */
    private static void theEnd() {
        String text = "sky 2 2;wish by 0 weight 2 must:not[wet 0 0+(of 1*2)=1 and on 0<2];";
        for (int n = 0; n <= text.length(); n++) {
            boolean whole = n == 8 || n == text.length();
            String part = text.substring(0, n);
            RainWishes x = new RainWishes();
            int answer = Due.tell(x, part);
            if (whole) {
                due.is("sky of " + part, answer, n == 8 ? 1 : 2);
            } else if (!Character.isLetter(text.charAt(Math.max(0, n - 1)))) {
                due.is("sky of " + part, answer, -12);
                due.is("its place", x.fault(1), n);
                spoilt(part + " \n ", 2, n + 3);
            }
        }
    }

    /** 2 (sky must be told first, and once). */
    private static void skyFirstAndOnce() {
        spoilt("clouds 1;", 2, 0);
        spoilt("wind 1;sky 1 1;", 2, 0);
        spoilt("wish by 0:1=1;sky 1 1;", 2, 0);
        spoilt(";sky 1 1;", 2, 0);
        spoilt("sky 1 1;sky 1 1;", 2, 8);
        spoilt("sky 1 1;clouds 1;sky 1 1;", 2, 17);
        told(" \n sky 1 1;", 1);
    }

    /** FAULTS, the first along the text. */
    private static void firstAlongTheText() {
        spoilt("sky 5 1;?", 3, 4);
        spoilt("sky ; 1;?", 2, 4);
        spoilt("sky 1 1;? clouds 7;", 1, 8);
        spoilt("sky 1 1;clouds 7;?", 3, 15);
        spoilt("sky 1 1;wish by 6:1234=1;", 3, 16);
        spoilt("sky 1 1;wish by 0:(((((((?", 4, 24);
        spoilt("sky 1 1;wish by 0:((((((?(", 1, 24);
        spoilt("sky 1 1;wish by 0:wet 1 1=1;", 3, 22);
    }

    /** of one TOKEN the least kind. */
    private static void leastKind() {
        spoilt("1000", 1, 0);
        spoilt("sky 1 1 1000;", 1, 8);
        spoilt("sky 1000 1;", 1, 4);
        spoilt("sky 1 1 999;", 2, 8);
        spoilt("sky 1 1;clouds 1 7;", 2, 17);
        spoilt("sky 1 1;wish by 0:((((((1(", 2, 25);
        spoilt("sky 1 1;wish by 0:[[[[[[1=[", 2, 26);
        spoilt("sky 1 1;wish by 0:[[[[[[1=1 not", 2, 28);
        String ten = "sky 1 1;" + "wish by 0:1=1;".repeat(9) + "wish by 0:1=1";
        spoilt(ten + " wish by 0:1=1;", 2, ten.length() + 1);
    }

    /** At most six of not [ ( within one another; 4 a seventh of not [ (. */
    private static void sixWithinOneAnother() {
        for (int truths = 0; truths <= 7; truths++) {
            for (int way = 0; way < 1 << truths; way++) {
                nest(truths, way, 6 - truths, false);
                nest(truths, way, 6 - truths, true);
                nest(truths, way, 7 - truths, false);
                nest(truths, way, 7 - truths, true);
            }
        }
    }

    /** So many of not and [ by the bits of way, then so many ( on the left or on the right of the =. */
    private static void nest(int truths, int way, int sums, boolean right) {
        if (sums < 0) {
            return;
        }
        StringBuilder text = new StringBuilder("sky 1 1;wish by 0:");
        int seventh = 0;
        for (int k = 0; k < truths; k++) {
            seventh = text.length();
            text.append((way >> k & 1) == 1 ? "not " : "[");
        }
        text.append(right ? "1=" : "");
        for (int k = 0; k < sums; k++) {
            seventh = text.length();
            text.append('(');
        }
        text.append('1').append(")".repeat(sums)).append(right ? "" : "=1");
        text.append("]".repeat(truths - Integer.bitCount(way))).append(';');
        if (truths + sums > 6) {
            spoilt(text.toString(), 4, seventh);
        } else {
            told(text.toString(), 2);
        }
    }

    /** within one another: those that are closed, or whose UNIT ends, are no more. */
    private static void notWithinOneAnother() {
        String six = "not not not not not not 1=1";
        told("sky 1 1;wish by 0:" + six + " and " + six + " or " + six + ";wish by 0:" + six + ";", 3);
        told("sky 1 1;wish by 0:[[[[[[1=1]]]]]] and [[[[[[1=1]]]]]];", 2);
        told("sky 1 1;wish by 0:((((((1))))))+((((((1))))))=((((((1))))))*((((((1))))));", 2);
        told("sky 1 1;wish by 0:[not not not not not 1=1 or not not not not not 1=1];", 2);
        spoilt("sky 1 1;wish by 0:[not not not not not 1=1 or not not not not not (1)=1];", 4, 66);
        told("sky 1 1;wish by 0:not[not[not[1=1]]and not[not[1=1]]];", 2);
        spoilt("sky 1 1;wish by 0:not[not[not[1=1]]and not[not[not 1=1]]];", 4, 47);
        spoilt("sky 1 1;wish by 0:not[not[not[1=1]]and not[not[(1)=1]]];", 4, 47);
    }
}
