import java.util.Arrays;
import java.util.NoSuchElementException;

/** Skies, clouds and wishes for rain, as ../shared/DOC.md promises them. */
public final class RainWishes {
    public static final int NONE = -1;

    private static final int MOST_BYTES = 900;
    private static final int BYTES_FED = 20;
    private static final int MOST_PARISHES = 4;
    private static final int MOST_DAYS = 6;
    private static final int MOST_CELLS = 12;
    private static final int MOST_WEATHERS = 4096;
    private static final int MOST_CLOUDS = 6;
    private static final int USUAL_CLOUDS = 3;
    private static final int MOST_WIND = 3;
    private static final int MOST_WISHES = 10;
    private static final int MOST_SETS = 1024;
    private static final int MOST_WEIGHT = 9;
    private static final int PERSONS = 6;
    private static final int RULES = 4;
    private static final int MOST_DEEDS = 10;
    private static final int TRAYS = 4;
    private static final int SORTS = 4;
    private static final int MOST_PLACES = 30;
    private static final int IMAGES = 3;
    private static final int MOST_NESTED = 6;
    private static final int MOST_KEPT = 1000000;

    private final byte[] tape = new byte[MOST_BYTES];
    private int onTape;
    private final Sky sky;
    private final Sky draft;
    private final Parser parser;
    private final Book book;
    private final Field field;
    private final Choices choices;
    private final Rules rules;
    private final Meant meant;
    private final Brackets brackets;
    private final Holding reserve;
    private final Tray[] trays;
    private final Sky[] imageSkies;
    private final Book[] imageBooks;
    private final boolean[] imaged = new boolean[IMAGES];

    public RainWishes() {
        sky = new Sky();
        draft = new Sky();
        parser = new Parser(tape, draft);
        book = new Book();
        field = new Field(sky);
        choices = new Choices(sky, book, field);
        rules = new Rules(sky, book, choices);
        meant = new Meant(sky);
        brackets = new Brackets(sky, choices);
        reserve = new Holding();
        trays = new Tray[TRAYS];
        for (int k = 0; k < TRAYS; k++) {
            trays[k] = new Tray();
        }
        imageSkies = new Sky[IMAGES];
        imageBooks = new Book[IMAGES];
        for (int k = 0; k < IMAGES; k++) {
            imageSkies[k] = new Sky();
            imageBooks[k] = new Book();
        }
    }

    // ---- the sky

    public int feed(int a, int b, int c, int d, int e) {
        if (onTape + BYTES_FED > MOST_BYTES) {
            return NONE;
        }
        lay(a);
        lay(b);
        lay(c);
        lay(d);
        lay(e);
        return onTape;
    }

    private void lay(int four) {
        for (int shift = 24; shift >= 0 && onTape < MOST_BYTES; shift -= 8) {
            tape[onTape] = (byte) (four >> shift);
            onTape++;
        }
    }

    public int sky(int n) throws IllegalArgumentException {
        if (n < 0 || n > onTape) {
            throw new IllegalArgumentException("not so many bytes on the tape");
        }
        onTape = 0;
        if (!parser.parse(n)) {
            return -10 - parser.fault;
        }
        sky.copyFrom(draft);
        book.begin(sky.wishes);
        forgetWhatWasFound();
        return sky.lines;
    }

    private void forgetWhatWasFound() {
        field.forget();
        choices.forget();
    }

    public int fault(int what) {
        if (what == 0) {
            return parser.fault;
        }
        return what == 1 ? parser.place : NONE;
    }

    public int wish(int i, int what) throws NoSuchElementException, IllegalArgumentException {
        checkWish(i);
        switch (what) {
            case 0:
                return sky.by[i];
            case 1:
                return sky.weight[i];
            case 2:
                return sky.musts >> i & 1;
            case 3:
                return book.open >> i & 1;
            case 4:
                return book.ages[i];
            case 5:
                return field.weathersOf(i);
            default:
                throw new IllegalArgumentException("another what");
        }
    }

    public int weather(int plan) throws IllegalArgumentException {
        checkCells(plan);
        return sky.weatherOf(plan);
    }

    public boolean holds(int i, int weather) throws NoSuchElementException, IllegalArgumentException {
        checkWish(i);
        checkCells(weather);
        return (field.at(weather) >> i & 1) == 1;
    }

    public int why(int plan) {
        return field.whyNot(plan, book.open);
    }

    public int granted(int plan) throws IllegalArgumentException {
        checkCells(plan);
        return field.grantedBy(plan, book.open);
    }

    public int plans() {
        return choices.settled().ables;
    }

    private void checkWish(int i) {
        if (i < 0 || i >= sky.wishes) {
            throw new NoSuchElementException("no such wish");
        }
    }

    private void checkOpen(int i) {
        checkWish(i);
        if ((book.open >> i & 1) == 0) {
            throw new IllegalArgumentException("the wish is not open");
        }
    }

    private void checkCells(int cells) {
        if (cells < 0 || cells > sky.allCells) {
            throw new IllegalArgumentException("others than cells");
        }
    }

    private void checkSet(int set) {
        if ((set & ~book.open) != 0) {
            throw new IllegalArgumentException("others than open wishes");
        }
    }

    private void checkPerson(int person) {
        if (person < 0 || person >= PERSONS) {
            throw new IllegalArgumentException("no such person");
        }
    }

    private void checkRule(int rule) {
        if (rule < 0 || rule >= RULES) {
            throw new IllegalArgumentException("no such rule");
        }
    }

    private void checkWhat(int what, int last) {
        if (what < 0 || what > last) {
            throw new IllegalArgumentException("another what");
        }
    }

    private void checkHundredths(int hundredths) {
        if (hundredths < 0 || hundredths > 100) {
            throw new IllegalArgumentException("not hundredths");
        }
    }

    private Tray trayThere(int tray) {
        if (tray < 0 || tray >= TRAYS) {
            throw new NoSuchElementException("no such tray");
        }
        if (trays[tray].many == NONE) {
            throw new IllegalStateException("the tray is missing");
        }
        return trays[tray];
    }

    // ---- together

    public int together(int set) throws IllegalArgumentException {
        checkSet(set);
        return choices.settled().leastPlan(set);
    }

    public int quarrel(int set) throws IllegalArgumentException {
        checkSet(set);
        return choices.settled().smallestQuarrel(set);
    }

    public int foes(int i) throws NoSuchElementException, IllegalArgumentException {
        checkOpen(i);
        return choices.settled().foesOf(i);
    }

    public int most(int what) throws IllegalArgumentException {
        checkWhat(what, 2);
        int plan = choices.settled().mostPlan();
        if (plan == NONE || what == 2) {
            return plan;
        }
        int set = field.grantedBy(plan, book.open);
        return what == 1 ? set : sky.weightOf(set);
    }

    public int nights() {
        return choices.settled().nightsForAll();
    }

    public int hearts(int i, int what) throws NoSuchElementException, IllegalArgumentException {
        checkOpen(i);
        checkWhat(what, 1);
        int given = choices.settled().givenUpFor(i);
        return given == NONE || what == 1 ? given : Integer.bitCount(given);
    }

    public int follows(int i) throws NoSuchElementException, IllegalArgumentException {
        checkOpen(i);
        return choices.settled().followersOf(i);
    }

    public int sure(int set, boolean wet) throws IllegalArgumentException {
        checkSet(set);
        return choices.settled().sureCells(set, wet);
    }

    // ---- by chance

    public long expected(int plan, int hundredths) throws IllegalArgumentException {
        checkCells(plan);
        if (Integer.bitCount(plan) > 4) {
            throw new IllegalArgumentException("more than four cells");
        }
        checkHundredths(hundredths);
        return choices.weightExpected(plan, hundredths);
    }

    public int bestChance(int hundredths) throws IllegalArgumentException {
        checkHundredths(hundredths);
        return choices.settled().bestByChance(hundredths);
    }

    // ---- who is served

    public int served(int rule) throws IllegalArgumentException {
        checkRule(rule);
        choices.settled();
        return rules.servedAsAsked(rule);
    }

    public int share(int person, int rule) throws IllegalArgumentException {
        checkPerson(person);
        checkRule(rule);
        choices.settled();
        return rules.weightFor(person, rules.servedAsAsked(rule));
    }

    public int gains(int person, int rule, int what) throws IllegalArgumentException {
        checkPerson(person);
        checkRule(rule);
        checkWhat(what, 1);
        choices.settled();
        rules.findGain(person, rule);
        return what == 0 ? rules.gain : rules.form;
    }

    public int bestRule() {
        choices.settled();
        int best = 0;
        int bestWeight = NONE;
        for (int rule = 0; rule < RULES; rule++) {
            int weight = sky.weightOf(rules.servedAsAsked(rule));
            if (weight > bestWeight) {
                best = rule;
                bestWeight = weight;
            }
        }
        return best;
    }

    // ---- what was meant

    public int wants(int tray, int what)
            throws NoSuchElementException, IllegalStateException, IllegalArgumentException {
        Tray thanks = trayThere(tray);
        if (sky.parishes == 0) {
            throw new IllegalStateException("no parishes");
        }
        boolean usual = what == 0 || what == 1;
        if (!usual && (what < 10 || what > 12)) {
            throw new IllegalArgumentException("another what");
        }
        if (!meant.take(thanks)) {
            throw new IllegalArgumentException("numbers that are no weathers");
        }
        meant.find();
        if (usual) {
            return what == 0 ? meant.cells : meant.ways;
        }
        return meant.numberAt(what - 10);
    }

    public int readings(int tray, int what)
            throws NoSuchElementException, IllegalStateException, IllegalArgumentException {
        Tray said = trayThere(tray);
        checkWhat(what, 3);
        if (!brackets.take(said)) {
            throw new IllegalArgumentException("numbers that say nothing");
        }
        brackets.bracket();
        if (what < 2) {
            return what == 0 ? brackets.all() : brackets.unlike();
        }
        choices.settled();
        return brackets.heldIn(what == 2);
    }

    // ---- nights, dues

    public int night(int plan) {
        int reason = field.whyNot(plan, book.open);
        return reason == 0 ? makeNight(plan) : -reason;
    }

    private int makeNight(int plan) {
        int set = field.grantedBy(plan, book.open);
        book.remember();
        book.pass(set, sky);
        return sky.weightOf(set);
    }

    public int thank(int person, int n) throws IllegalArgumentException {
        checkPerson(person);
        if (n < 1 || n > 99) {
            throw new IllegalArgumentException("not so many thanks");
        }
        book.remember();
        book.dues[person] -= n;
        return book.dues[person];
    }

    public int owes(int person) throws IllegalArgumentException {
        checkPerson(person);
        return book.dues[person];
    }

    public int withdraw(int i) throws NoSuchElementException, IllegalStateException {
        checkWish(i);
        if ((book.open >> i & 1) == 0) {
            throw new IllegalStateException("the wish is not open");
        }
        book.remember();
        book.open &= ~(1 << i);
        return Integer.bitCount(book.open);
    }

    public int again(int i) throws NoSuchElementException, IllegalStateException {
        checkWish(i);
        if ((book.open >> i & 1) == 1) {
            throw new IllegalStateException("the wish is open");
        }
        book.remember();
        book.open |= 1 << i;
        book.ages[i] = 0;
        return Integer.bitCount(book.open);
    }

    public int undo(int n) throws IllegalArgumentException {
        if (n < 1 || n > book.deeds) {
            throw new IllegalArgumentException("not so many deeds");
        }
        book.takeBack(n);
        return book.deeds;
    }

    public int judge(int tray, int what)
            throws NoSuchElementException, IllegalStateException, IllegalArgumentException {
        Tray told = trayThere(tray);
        checkWhat(what, 3);
        int open = book.open;
        int weight = 0;
        int place = 0;
        int reason = 0;
        while (place < told.many && reason == 0) {
            reason = field.whyNot(told.row[place], open);
            if (reason == 0) {
                int set = field.grantedBy((int) told.row[place], open);
                weight += sky.weightOf(set);
                open &= ~set;
                place++;
            }
        }
        switch (what) {
            case 0:
                return reason == 0 ? NONE : place;
            case 1:
                return reason;
            case 2:
                return weight;
            default:
                return Integer.bitCount(open);
        }
    }

    public int perform(int tray) throws NoSuchElementException, IllegalStateException {
        Tray told = trayThere(tray);
        int made = 0;
        while (made < told.many && field.whyNot(told.row[made], book.open) == 0) {
            makeNight((int) told.row[made]);
            made++;
        }
        return made;
    }

    public int season(int seed, int times) throws IllegalArgumentException, IllegalStateException {
        if (times < 1 || times > 30) {
            throw new IllegalArgumentException("not so many times");
        }
        if (sky.cells == 0) {
            throw new IllegalStateException("no parishes");
        }
        int x = seed;
        int made = 0;
        for (int time = 0; time < times; time++) {
            x = drawn(x);
            int put = (x >>> 16) % (sky.clouds + 1);
            int plan = 0;
            for (int k = 0; k < put; k++) {
                x = drawn(x);
                plan |= 1 << (x >>> 16) % sky.cells;
            }
            if (field.whyNot(plan, book.open) == 0) {
                makeNight(plan);
                made++;
            }
        }
        return made;
    }

    private static int drawn(int x) {
        return 1103515245 * x + 12345;
    }

    // ---- holding back

    public long holding(int tray, int n, int c)
            throws NoSuchElementException, IllegalStateException, IllegalArgumentException {
        takeReserve(tray, n, c);
        return reserve.worthOf(n, c);
    }

    public int grants(int tray, int n, int c)
            throws NoSuchElementException, IllegalStateException, IllegalArgumentException {
        takeReserve(tray, n, c);
        return reserve.leastNow(n, c);
    }

    private void takeReserve(int tray, int n, int c) {
        Tray weights = trayThere(tray);
        if (n < 1 || n > Holding.MOST_NIGHTS || c < 0 || c > MOST_CLOUDS) {
            throw new IllegalArgumentException("not so many nights or clouds");
        }
        if (!reserve.take(weights)) {
            throw new IllegalArgumentException("numbers that are no weights");
        }
        reserve.reckon(n);
    }

    // ---- trays, images

    public void tray(int tray, int sort, int many) throws NoSuchElementException, IllegalArgumentException {
        if (tray < 0 || tray >= TRAYS) {
            throw new NoSuchElementException("no such tray");
        }
        if (sort < 0 || sort >= SORTS || many < 0 || many > MOST_PLACES) {
            throw new IllegalArgumentException("no such sort, or not so many");
        }
        trays[tray].lay(sort, many);
    }

    public long write(int tray, int place, long v)
            throws NoSuchElementException, IllegalStateException, IndexOutOfBoundsException {
        Tray row = trayThere(tray);
        if (place < 0 || place >= row.many) {
            throw new IndexOutOfBoundsException("no such place");
        }
        return row.put(place, v);
    }

    public int pour(int tray) throws NoSuchElementException, IllegalStateException {
        Tray row = trayThere(tray);
        Choices found = choices.settled();
        int many = Math.min(row.many, found.ables);
        for (int place = 0; place < many; place++) {
            row.put(place, found.able[place]);
        }
        return many;
    }

    public void image(int i) throws NoSuchElementException {
        checkImage(i);
        imageSkies[i].copyFrom(sky);
        imageBooks[i].copyFrom(book);
        imaged[i] = true;
    }

    public void restore(int i) throws NoSuchElementException, IllegalStateException {
        checkImage(i);
        if (!imaged[i]) {
            throw new IllegalStateException("no such image was made");
        }
        sky.copyFrom(imageSkies[i]);
        book.copyFrom(imageBooks[i]);
        forgetWhatWasFound();
    }

    private void checkImage(int i) {
        if (i < 0 || i >= IMAGES) {
            throw new NoSuchElementException("no such image");
        }
    }

    public int count(int what) {
        switch (what) {
            case 0:
                return sky.lines;
            case 1:
                return sky.parishes;
            case 2:
                return sky.days;
            case 3:
                return sky.clouds;
            case 4:
                return sky.wind;
            case 5:
                return sky.wishes;
            case 6:
                return Integer.bitCount(book.open);
            case 7:
                return book.allDues();
            case 8:
                return book.deeds;
            case 9:
                return onTape;
            default:
                return NONE;
        }
    }

    /** What a text told: the sky's measures and the wishes, each as code for a stack. */
    private static final class Sky {
        static final int PAREN = 0;
        static final int BRACKET = 1;
        static final int OR = 2;
        static final int AND = 3;
        static final int NOT = 4;
        static final int EQUAL = 5;
        static final int LESS = 6;
        static final int MORE = 7;
        static final int PLUS = 8;
        static final int MINUS = 9;
        static final int TIMES = 10;
        static final int NUMBER = 11;
        static final int WETS = 12;
        /** Below the code lies what it speaks of: a number, or a set of cells. */
        static final int CODE_SHIFT = 12;
        static final int CODE_MASK = 4095;

        int lines;
        int parishes;
        int days;
        int clouds = USUAL_CLOUDS;
        int wind;
        int wishes;
        int musts;
        int cells;
        int allCells;
        int codes;
        private int blown;
        private int blownBy;
        final int[] by = new int[MOST_WISHES];
        final int[] weight = new int[MOST_WISHES];
        final int[] from = new int[MOST_WISHES + 1];
        final int[] code = new int[MOST_BYTES];

        void clear() {
            lines = 0;
            parishes = 0;
            days = 0;
            clouds = USUAL_CLOUDS;
            wind = 0;
            wishes = 0;
            musts = 0;
            codes = 0;
            measure();
        }

        void measure() {
            cells = parishes * days;
            allCells = (1 << cells) - 1;
            blown = 0;
            blownBy = days * wind + 1;
            for (int parish = 0; wind > 0 && parish + wind < parishes; parish++) {
                for (int day = 0; day + 1 < days; day++) {
                    blown |= 1 << (days * parish + day);
                }
            }
        }

        void copyFrom(Sky other) {
            lines = other.lines;
            parishes = other.parishes;
            days = other.days;
            clouds = other.clouds;
            wind = other.wind;
            wishes = other.wishes;
            musts = other.musts;
            codes = other.codes;
            System.arraycopy(other.by, 0, by, 0, MOST_WISHES);
            System.arraycopy(other.weight, 0, weight, 0, MOST_WISHES);
            System.arraycopy(other.from, 0, from, 0, MOST_WISHES + 1);
            System.arraycopy(other.code, 0, code, 0, codes);
            measure();
        }

        void emit(int op, int argument) {
            if (codes < MOST_BYTES) {
                code[codes] = op << CODE_SHIFT | argument;
                codes++;
            }
        }

        int weatherOf(int plan) {
            return plan | (plan & blown) << blownBy;
        }

        int weightOf(int set) {
            int sum = 0;
            for (int i = 0; i < wishes; i++) {
                if ((set >> i & 1) == 1) {
                    sum += weight[i];
                }
            }
            return sum;
        }

        int cellsOfParish(int parish) {
            return ((1 << days) - 1) << days * parish;
        }

        int cellsOnDay(int day) {
            int mask = 0;
            for (int parish = 0; parish < parishes; parish++) {
                mask |= 1 << (days * parish + day);
            }
            return mask;
        }
    }

    /** The tape's bytes, cut into tokens one behind the other. */
    private static final class Tokens {
        static final int END = 0;
        static final int BAD = 1;
        static final int WORD = 2;
        static final int NUMBER = 3;
        static final int SIGN = 4;
        private static final String SIGNS = ";:+-*()[]=<>";

        private final byte[] text;
        private int length;
        private int end;
        int start;
        int kind;

        Tokens(byte[] text) {
            this.text = text;
        }

        void begin(int n) {
            length = n;
            end = 0;
            advance();
        }

        void advance() {
            start = end;
            while (start < length && (text[start] == 10 || text[start] == 32)) {
                start++;
            }
            end = start + 1;
            if (start >= length) {
                kind = END;
                end = start;
            } else if (text[start] >= 'a' && text[start] <= 'z') {
                kind = WORD;
                end = runEnd('a', 'z');
            } else if (text[start] >= '0' && text[start] <= '9') {
                end = runEnd('0', '9');
                kind = end - start <= 3 ? NUMBER : BAD;
            } else {
                kind = SIGNS.indexOf((char) (text[start] & 255)) >= 0 ? SIGN : BAD;
            }
        }

        private int runEnd(char low, char high) {
            int at = start;
            while (at < length && text[at] >= low && text[at] <= high) {
                at++;
            }
            return at;
        }

        boolean at(String word) {
            if (end - start != word.length()) {
                return false;
            }
            for (int k = 0; k < word.length(); k++) {
                if (text[start + k] != word.charAt(k)) {
                    return false;
                }
            }
            return true;
        }

        int value() {
            int sum = 0;
            for (int k = start; k < end; k++) {
                sum = 10 * sum + text[k] - '0';
            }
            return sum;
        }
    }

    /** Reads a text into a draft; codes that still wait for their right side lie on a stack. */
    private static final class Parser {
        private static final int LINE = 0;
        private static final int UNIT = 1;
        private static final int ATOM = 2;
        private static final int SUM_READ = 3;
        private static final int TRUTH_READ = 4;
        /** How tightly each code from PAREN to TIMES binds. */
        private static final int[] TIGHT = {0, 0, 1, 2, 3, 4, 4, 4, 5, 5, 6};

        private final Tokens tokens;
        private final Sky sky;
        private final int[] waiting = new int[MOST_BYTES];
        private int top;
        private int nested;
        private int parens;
        private int squares;
        private boolean compared;
        private int state;
        private int number;
        int fault;
        int place = NONE;

        Parser(byte[] text, Sky draft) {
            tokens = new Tokens(text);
            sky = draft;
        }

        boolean parse(int n) {
            sky.clear();
            fault = 0;
            place = NONE;
            state = LINE;
            tokens.begin(n);
            boolean fine = readSky();
            for (int k = 0; k < MOST_BYTES && fine; k++) {
                if (state == LINE) {
                    if (tokens.kind == Tokens.END) {
                        break;
                    }
                    fine = readLine();
                } else if (state == UNIT || state == ATOM) {
                    fine = readOperand();
                } else {
                    fine = readOperator();
                }
            }
            sky.measure();
            return fine;
        }

        private boolean refuse(int kind) {
            fault = tokens.kind == Tokens.BAD ? 1 : kind;
            place = tokens.start;
            return false;
        }

        private boolean take(String word) {
            if (!tokens.at(word)) {
                return refuse(2);
            }
            tokens.advance();
            return true;
        }

        private boolean takeNumber(int least, int most) {
            if (tokens.kind != Tokens.NUMBER) {
                return refuse(2);
            }
            number = tokens.value();
            if (number < least || number > most) {
                return refuse(3);
            }
            tokens.advance();
            return true;
        }

        private boolean readSky() {
            if (!take("sky") || !takeNumber(1, MOST_PARISHES)) {
                return false;
            }
            sky.parishes = number;
            int mostDays = number > 0 ? Math.min(MOST_DAYS, MOST_CELLS / number) : 0;
            if (!takeNumber(1, mostDays)) {
                return false;
            }
            sky.days = number;
            sky.measure();
            return endLine();
        }

        private boolean endLine() {
            sky.lines++;
            return take(";");
        }

        private boolean readLine() {
            if (tokens.at("wish")) {
                return readWish();
            }
            boolean clouds = tokens.at("clouds");
            if (!clouds && !tokens.at("wind")) {
                return refuse(2);
            }
            tokens.advance();
            if (!takeNumber(0, clouds ? MOST_CLOUDS : MOST_WIND)) {
                return false;
            }
            if (clouds) {
                sky.clouds = number;
            } else {
                sky.wind = number;
            }
            return endLine();
        }

        private boolean readWish() {
            int i = sky.wishes;
            if (i >= MOST_WISHES) {
                return refuse(4);
            }
            tokens.advance();
            if (!take("by") || !takeNumber(0, PERSONS - 1)) {
                return false;
            }
            sky.by[i] = number;
            sky.weight[i] = 1;
            if (tokens.at("weight")) {
                tokens.advance();
                if (!takeNumber(1, MOST_WEIGHT)) {
                    return false;
                }
                sky.weight[i] = number;
            }
            if (tokens.at("must")) {
                tokens.advance();
                sky.musts |= 1 << i;
            }
            sky.from[i] = sky.codes;
            top = 0;
            nested = 0;
            parens = 0;
            squares = 0;
            state = UNIT;
            return take(":");
        }

        private boolean readOperand() {
            if (state == UNIT) {
                compared = false;
                if (tokens.at("not")) {
                    return open(Sky.NOT, UNIT);
                }
                if (tokens.at("[")) {
                    return open(Sky.BRACKET, UNIT);
                }
            }
            return tokens.at("(") ? open(Sky.PAREN, ATOM) : readAtom();
        }

        private boolean open(int code, int next) {
            if (nested >= MOST_NESTED) {
                return refuse(4);
            }
            nested++;
            if (code == Sky.PAREN) {
                parens++;
            } else if (code == Sky.BRACKET) {
                squares++;
            }
            return await(code, next);
        }

        private boolean await(int code, int next) {
            if (top < MOST_BYTES) {
                waiting[top] = code;
                top++;
            }
            state = next;
            tokens.advance();
            return true;
        }

        private boolean readAtom() {
            state = SUM_READ;
            if (tokens.kind == Tokens.NUMBER) {
                sky.emit(Sky.NUMBER, tokens.value());
                tokens.advance();
                return true;
            }
            if (tokens.at("all")) {
                sky.emit(Sky.WETS, sky.allCells);
                tokens.advance();
                return true;
            }
            boolean wet = tokens.at("wet");
            boolean on = tokens.at("on");
            if (!wet && !on && !tokens.at("of")) {
                return refuse(2);
            }
            tokens.advance();
            if (!takeNumber(0, (on ? sky.days : sky.parishes) - 1)) {
                return false;
            }
            int mask = on ? sky.cellsOnDay(number) : sky.cellsOfParish(number);
            if (wet) {
                if (!takeNumber(0, sky.days - 1)) {
                    return false;
                }
                mask &= sky.cellsOnDay(number);
            }
            sky.emit(Sky.WETS, mask);
            return true;
        }

        private boolean readOperator() {
            if (state == SUM_READ) {
                int sign = arithmeticSign();
                if (sign >= 0) {
                    return join(sign, ATOM);
                }
                if (parens > 0) {
                    return tokens.at(")") ? close(Sky.PAREN) : refuse(2);
                }
                if (!compared) {
                    sign = comparingSign();
                    compared = true;
                    return sign >= 0 ? join(sign, ATOM) : refuse(2);
                }
            }
            if (tokens.at("and")) {
                return join(Sky.AND, UNIT);
            }
            if (tokens.at("or")) {
                return join(Sky.OR, UNIT);
            }
            if (squares > 0) {
                return tokens.at("]") ? close(Sky.BRACKET) : refuse(2);
            }
            endWish();
            return endLine();
        }

        private int arithmeticSign() {
            if (tokens.at("+")) {
                return Sky.PLUS;
            }
            if (tokens.at("-")) {
                return Sky.MINUS;
            }
            return tokens.at("*") ? Sky.TIMES : NONE;
        }

        private int comparingSign() {
            if (tokens.at("=")) {
                return Sky.EQUAL;
            }
            if (tokens.at("<")) {
                return Sky.LESS;
            }
            return tokens.at(">") ? Sky.MORE : NONE;
        }

        private boolean join(int code, int next) {
            settleDownTo(TIGHT[code]);
            return await(code, next);
        }

        private boolean close(int code) {
            settleDownTo(1);
            if (top > 0) {
                top--;
            }
            nested--;
            if (code == Sky.PAREN) {
                parens--;
                state = SUM_READ;
            } else {
                squares--;
                state = TRUTH_READ;
            }
            tokens.advance();
            return true;
        }

        private void endWish() {
            settleDownTo(1);
            sky.wishes++;
            sky.from[sky.wishes] = sky.codes;
            state = LINE;
        }

        private void settleDownTo(int tight) {
            while (top > 0 && TIGHT[waiting[top - 1]] >= tight) {
                top--;
                if (waiting[top] == Sky.NOT) {
                    nested--;
                }
                sky.emit(waiting[top], 0);
            }
        }
    }

    /** Which wishes are open, how old they are, who owes what, and how it was before each deed. */
    private static final class Book {
        private static final int ROW = 1 + MOST_WISHES + PERSONS;

        int open;
        final int[] ages = new int[MOST_WISHES];
        final int[] dues = new int[PERSONS];
        int deeds;
        private int eldest;
        private final int[][] past = new int[MOST_DEEDS][ROW];

        void begin(int wishes) {
            open = (1 << wishes) - 1;
            Arrays.fill(ages, 0);
            Arrays.fill(dues, 0);
            deeds = 0;
            eldest = 0;
        }

        void copyFrom(Book other) {
            open = other.open;
            System.arraycopy(other.ages, 0, ages, 0, MOST_WISHES);
            System.arraycopy(other.dues, 0, dues, 0, PERSONS);
            deeds = other.deeds;
            eldest = other.eldest;
            for (int k = 0; k < MOST_DEEDS; k++) {
                System.arraycopy(other.past[k], 0, past[k], 0, ROW);
            }
        }

        void remember() {
            int[] row = past[(eldest + deeds) % MOST_DEEDS];
            if (deeds < MOST_DEEDS) {
                deeds++;
            } else {
                eldest = (eldest + 1) % MOST_DEEDS;
            }
            row[0] = open;
            System.arraycopy(ages, 0, row, 1, MOST_WISHES);
            System.arraycopy(dues, 0, row, 1 + MOST_WISHES, PERSONS);
        }

        void takeBack(int n) {
            deeds -= n;
            int[] row = past[(eldest + deeds) % MOST_DEEDS];
            open = row[0];
            System.arraycopy(row, 1, ages, 0, MOST_WISHES);
            System.arraycopy(row, 1 + MOST_WISHES, dues, 0, PERSONS);
        }

        void pass(int set, Sky sky) {
            open &= ~set;
            for (int i = 0; i < sky.wishes; i++) {
                if ((set >> i & 1) == 1) {
                    dues[sky.by[i]] += sky.weight[i];
                } else if ((open >> i & 1) == 1) {
                    ages[i]++;
                }
            }
        }

        int allDues() {
            int sum = 0;
            for (int person = 0; person < PERSONS; person++) {
                sum += dues[person];
            }
            return sum;
        }
    }

    /** Which wishes hold in which weather: looked at once, when it is first asked. */
    private static final class Field {
        private final Sky sky;
        private final int[] held = new int[MOST_WEATHERS];
        private final int[] stack = new int[MOST_BYTES];

        Field(Sky sky) {
            this.sky = sky;
            Arrays.fill(held, NONE);
        }

        void forget() {
            Arrays.fill(held, NONE);
        }

        int at(int weather) {
            if (held[weather] == NONE) {
                int set = 0;
                for (int i = 0; i < sky.wishes; i++) {
                    set |= truthOf(i, weather) << i;
                }
                held[weather] = set;
            }
            return held[weather];
        }

        private int truthOf(int i, int weather) {
            int top = 0;
            for (int k = sky.from[i]; k < sky.from[i + 1]; k++) {
                int op = sky.code[k] >> Sky.CODE_SHIFT;
                int argument = sky.code[k] & Sky.CODE_MASK;
                if (op >= Sky.NUMBER && top < MOST_BYTES) {
                    stack[top] = op == Sky.NUMBER ? argument : Integer.bitCount(weather & argument);
                    top++;
                } else if (op == Sky.NOT && top > 0) {
                    stack[top - 1] = 1 - stack[top - 1];
                } else if (top > 1) {
                    top--;
                    stack[top - 1] = kept(reckon(op, stack[top - 1], stack[top]));
                }
            }
            return stack[0];
        }

        private static long reckon(int op, long left, long right) {
            switch (op) {
                case Sky.OR:
                    return left | right;
                case Sky.AND:
                    return left & right;
                case Sky.EQUAL:
                    return left == right ? 1 : 0;
                case Sky.LESS:
                    return left < right ? 1 : 0;
                case Sky.MORE:
                    return left > right ? 1 : 0;
                case Sky.PLUS:
                    return left + right;
                case Sky.MINUS:
                    return left - right;
                default:
                    return left * right;
            }
        }

        private static int kept(long number) {
            if (number > MOST_KEPT) {
                return MOST_KEPT;
            }
            return number < -MOST_KEPT ? -MOST_KEPT : (int) number;
        }

        int weathersOf(int i) {
            int many = 0;
            for (int weather = 0; weather <= sky.allCells; weather++) {
                many += at(weather) >> i & 1;
            }
            return many;
        }

        int grantedBy(int plan, int open) {
            return at(sky.weatherOf(plan)) & open;
        }

        /** A plan told in a tray may be larger than an int. */
        int whyNot(long plan, int open) {
            if (plan < 0 || plan > sky.allCells) {
                return 1;
            }
            if (Integer.bitCount((int) plan) > sky.clouds) {
                return 2;
            }
            int due = sky.musts & open;
            return due == 0 || (due & ~at(sky.weatherOf((int) plan))) == 0 ? 0 : 3;
        }
    }

    /** The plans that can be, and the least plan for each set of open wishes. */
    private static final class Choices {
        private static final int MOST_TRIED = 3;

        private final Sky sky;
        private final Book book;
        private final Field field;
        final int[] able = new int[MOST_WEATHERS];
        int ables;
        private final int[] least = new int[MOST_SETS];
        private final int[] fewest = new int[MOST_SETS];
        private int open;
        private boolean fresh;

        Choices(Sky sky, Book book, Field field) {
            this.sky = sky;
            this.book = book;
            this.field = field;
        }

        void forget() {
            fresh = false;
        }

        Choices settled() {
            if (!fresh || open != book.open) {
                settle();
            }
            return this;
        }

        private void settle() {
            open = book.open;
            fresh = true;
            ables = 0;
            Arrays.fill(least, NONE);
            for (int plan = 0; plan <= sky.allCells; plan++) {
                if (field.whyNot(plan, open) == 0) {
                    able[ables] = plan;
                    ables++;
                    int set = field.grantedBy(plan, open);
                    least[set] = lesser(least[set], plan);
                }
            }
            spread();
        }

        /** A plan for a set serves each set within it, too. */
        private void spread() {
            for (int i = 0; i < sky.wishes; i++) {
                for (int set = 0; set < 1 << sky.wishes; set++) {
                    if ((set >> i & 1) == 0) {
                        least[set] = lesser(least[set], least[set | 1 << i]);
                    }
                }
            }
        }

        private static int lesser(int one, int other) {
            if (one == NONE || other == NONE) {
                return one == NONE ? other : one;
            }
            int more = Integer.bitCount(one) - Integer.bitCount(other);
            return more < 0 || more == 0 && one < other ? one : other;
        }

        int leastPlan(int set) {
            return least[set];
        }

        private boolean areTogether(int set) {
            return least[set] != NONE;
        }

        /** Without any plan that can be, no wishes at all are the smallest quarrel. */
        int smallestQuarrel(int set) {
            int best = NONE;
            for (int part = 0; part <= set; part++) {
                if ((part & ~set) == 0 && !areTogether(part)
                        && (best == NONE || Integer.bitCount(part) < Integer.bitCount(best))) {
                    best = part;
                }
            }
            return best;
        }

        int foesOf(int i) {
            int foes = 0;
            if (areTogether(1 << i)) {
                for (int j = 0; j < sky.wishes; j++) {
                    if ((open >> j & 1) == 1 && !areTogether(1 << i | 1 << j)) {
                        foes |= 1 << j;
                    }
                }
            }
            return foes;
        }

        int mostPlan() {
            int best = NONE;
            int bestWeight = NONE;
            for (int k = 0; k < ables; k++) {
                int weight = sky.weightOf(field.grantedBy(able[k], open));
                if (weight > bestWeight) {
                    best = able[k];
                    bestWeight = weight;
                } else if (weight == bestWeight) {
                    best = lesser(best, able[k]);
                }
            }
            return best;
        }

        int nightsForAll() {
            fewest[0] = 0;
            for (int set = 1; set <= open; set++) {
                fewest[set] = (set & ~open) == 0 ? nightsFor(set) : NONE;
            }
            return fewest[open];
        }

        private int nightsFor(int set) {
            int best = NONE;
            for (int part = set; part > 0; part = part - 1 & set) {
                int left = fewest[set & ~part];
                if (areTogether(part) && left != NONE && (best == NONE || left + 1 < best)) {
                    best = left + 1;
                }
            }
            return best;
        }

        int givenUpFor(int i) {
            if (!areTogether(1 << i)) {
                return NONE;
            }
            int others = open & ~sky.musts & ~(1 << i);
            int best = NONE;
            for (int part = 0; part <= others; part++) {
                if ((part & ~others) == 0 && areTogether(open & ~part)
                        && (best == NONE || Integer.bitCount(part) < Integer.bitCount(best))) {
                    best = part;
                }
            }
            return best;
        }

        int followersOf(int i) {
            int set = open & ~(1 << i);
            for (int k = 0; k < ables; k++) {
                int given = field.grantedBy(able[k], open);
                if ((given >> i & 1) == 1) {
                    set &= given;
                }
            }
            return set;
        }

        int sureCells(int set, boolean wet) {
            if (!areTogether(set)) {
                return NONE;
            }
            int sure = sky.allCells;
            for (int k = 0; k < ables; k++) {
                int weather = sky.weatherOf(able[k]);
                if ((set & ~field.at(weather)) == 0) {
                    sure &= wet ? weather : ~weather;
                }
            }
            return sure;
        }

        /** Asks the book, not what is settled: it needs no plan but this one. */
        long weightExpected(int plan, int hundredths) {
            int clouds = Integer.bitCount(plan);
            int come = plan;
            long sum = 0;
            for (int k = 0; k < 1 << clouds; k++) {
                int many = Integer.bitCount(come);
                long likely = power(hundredths, many) * power(100 - hundredths, clouds - many);
                sum += likely * sky.weightOf(field.at(sky.weatherOf(come)) & book.open);
                come = come - 1 & plan;
            }
            return sum;
        }

        int bestByChance(int hundredths) {
            int best = NONE;
            long bestWeight = NONE;
            for (int k = 0; k < ables; k++) {
                int clouds = Integer.bitCount(able[k]);
                if (clouds <= MOST_TRIED) {
                    long weight = weightExpected(able[k], hundredths) * power(100, MOST_TRIED - clouds);
                    if (weight > bestWeight) {
                        best = able[k];
                        bestWeight = weight;
                    } else if (weight == bestWeight) {
                        best = lesser(best, able[k]);
                    }
                }
            }
            return best;
        }

        private static long power(int base, int times) {
            long product = 1;
            for (int k = 0; k < times; k++) {
                product *= base;
            }
            return product;
        }
    }

    /** Who is served by rules, as the wishes are or as somebody says that they are. */
    private static final class Rules {
        private static final int GIVES_UP = 1;
        private static final int SAYS_WEIGHTY = 2;
        private static final int SAYS_OLDER = 3;
        private static final int OLDER_BY = 9;

        private final Sky sky;
        private final Book book;
        private final Choices choices;
        private final int[] saidWeight = new int[MOST_WISHES];
        private final int[] saidAge = new int[MOST_WISHES];
        private int saidOpen;
        int gain;
        int form;

        Rules(Sky sky, Book book, Choices choices) {
            this.sky = sky;
            this.book = book;
            this.choices = choices;
        }

        int servedAsAsked(int rule) {
            sayAsItIs();
            return serve(rule);
        }

        private void sayAsItIs() {
            System.arraycopy(sky.weight, 0, saidWeight, 0, MOST_WISHES);
            System.arraycopy(book.ages, 0, saidAge, 0, MOST_WISHES);
            saidOpen = book.open;
        }

        private int serve(int rule) {
            int left = saidOpen;
            int set = 0;
            for (int k = 0; k < sky.wishes && left != 0; k++) {
                int bit = 1 << firstOf(left, rule);
                left &= ~bit;
                if (choices.leastPlan(set | bit) != NONE) {
                    set |= bit;
                }
            }
            return set;
        }

        private int firstOf(int left, int rule) {
            int first = NONE;
            int firstTurn = 0;
            for (int i = 0; i < sky.wishes; i++) {
                if ((left >> i & 1) == 1) {
                    int turn = turnOf(i, rule);
                    if (first == NONE || turn < firstTurn) {
                        first = i;
                        firstTurn = turn;
                    }
                }
            }
            return first;
        }

        private int turnOf(int i, int rule) {
            if (rule == 0) {
                return -saidAge[i];
            }
            if (rule == 1) {
                return -saidWeight[i];
            }
            if (rule == 2) {
                return openOf(sky.by[i]);
            }
            int plan = choices.leastPlan(1 << i);
            return plan == NONE ? MOST_CELLS + 1 : Integer.bitCount(plan);
        }

        private int openOf(int person) {
            int many = 0;
            for (int i = 0; i < sky.wishes; i++) {
                if (sky.by[i] == person) {
                    many += saidOpen >> i & 1;
                }
            }
            return many;
        }

        int weightFor(int person, int set) {
            int sum = 0;
            for (int i = 0; i < sky.wishes; i++) {
                if (sky.by[i] == person && (set >> i & 1) == 1) {
                    sum += sky.weight[i];
                }
            }
            return sum;
        }

        void findGain(int person, int rule) {
            int usual = weightFor(person, servedAsAsked(rule));
            gain = 0;
            form = NONE;
            for (int way = GIVES_UP; way <= SAYS_OLDER; way++) {
                for (int i = 0; i < sky.wishes; i++) {
                    if (sky.by[i] == person && sayOtherwise(i, way)) {
                        int more = weightFor(person, serve(rule)) - usual;
                        if (more > gain) {
                            gain = more;
                            form = 10 * way + i;
                        }
                    }
                }
            }
        }

        private boolean sayOtherwise(int i, int way) {
            if ((book.open >> i & 1) == 0 || way == GIVES_UP && (sky.musts >> i & 1) == 1) {
                return false;
            }
            sayAsItIs();
            if (way == GIVES_UP) {
                saidOpen &= ~(1 << i);
            } else if (way == SAYS_WEIGHTY) {
                saidWeight[i] = MOST_WEIGHT;
            } else {
                saidAge[i] += OLDER_BY;
            }
            return true;
        }
    }

    /** What somebody wants, by the weathers of a tray that were thanked for or not. */
    private static final class Meant {
        private static final int MOST_TOLD = 12;
        private static final int MOST_WANTED = 3;

        private final Sky sky;
        private final int[] told = new int[MOST_TOLD];
        private int many;
        private int care;
        private int wet;
        int cells;
        int ways;

        Meant(Sky sky) {
            this.sky = sky;
        }

        boolean take(Tray tray) {
            many = tray.many;
            if (many < 1 || many > MOST_TOLD) {
                return false;
            }
            for (int k = 0; k < many; k++) {
                long number = tray.row[k];
                if (number < 0 || number >> 1 > sky.allCells) {
                    return false;
                }
                told[k] = (int) number;
            }
            return true;
        }

        void find() {
            ways = 0;
            for (int size = 0; size <= MOST_WANTED && ways == 0; size++) {
                cells = size;
                search(size, 0, 0, 0);
            }
            if (ways == 0) {
                cells = NONE;
                ways = NONE;
            }
        }

        /** Each cell left to tell raises the depth by one, and they are three at most. */
        private void search(int left, int fromCell, int nowCare, int nowWet) {
            if (left <= 0) {
                if (fits(nowCare, nowWet)) {
                    keep(nowCare, nowWet);
                }
                return;
            }
            for (int cell = fromCell; cell < sky.cells; cell++) {
                int bit = 1 << cell;
                search(left - 1, cell + 1, nowCare | bit, nowWet);
                search(left - 1, cell + 1, nowCare | bit, nowWet | bit);
            }
        }

        private boolean fits(int nowCare, int nowWet) {
            for (int k = 0; k < many; k++) {
                boolean thanked = (told[k] & 1) == 1;
                boolean so = (told[k] >> 1 & nowCare) == nowWet;
                if (so != thanked) {
                    return false;
                }
            }
            return true;
        }

        private void keep(int nowCare, int nowWet) {
            if (ways == 0) {
                care = nowCare;
                wet = nowWet;
            }
            ways++;
        }

        int numberAt(int k) {
            if (k >= cells) {
                return NONE;
            }
            int seen = 0;
            for (int cell = 0; cell < sky.cells; cell++) {
                if ((care >> cell & 1) == 1) {
                    if (seen == k) {
                        return 2 * cell + (wet >> cell & 1);
                    }
                    seen++;
                }
            }
            return NONE;
        }
    }

    /**
     * All ways to bracket what was badly said. A reading is a row of 32 bits, one for
     * each case of the five cells at most that it speaks of.
     */
    private static final class Brackets {
        private static final int MOST_SAID = 5;
        private static final int MOST_WAYS = 14;
        private static final int CASES = 32;

        private final Sky sky;
        private final Choices choices;
        private final int[] joint = new int[MOST_SAID];
        private final int[] cellOf = new int[MOST_SAID];
        private final int[] plansIn = new int[CASES];
        private final int[][] found = new int[MOST_SAID * MOST_SAID][MOST_WAYS];
        private final int[] ways = new int[MOST_SAID * MOST_SAID];
        private int parts;
        private int spokenOf;

        Brackets(Sky sky, Choices choices) {
            this.sky = sky;
            this.choices = choices;
        }

        boolean take(Tray tray) {
            if (tray.many % 2 == 0 || tray.many > 2 * MOST_SAID - 1) {
                return false;
            }
            parts = (tray.many + 1) / 2;
            spokenOf = 0;
            for (int k = 0; k < tray.many; k++) {
                long number = tray.row[k];
                boolean odd = k % 2 == 1;
                if (number < 0 || number >= (odd ? 2 : 2 * sky.cells)) {
                    return false;
                }
                if (odd) {
                    joint[k / 2] = (int) number;
                } else {
                    takePart(k / 2, (int) number);
                }
            }
            return true;
        }

        private void takePart(int part, int number) {
            int known = placeOfCell(number / 2);
            int row = 0;
            for (int c = 0; c < CASES; c++) {
                if ((c >> known & 1) == number % 2) {
                    row |= 1 << c;
                }
            }
            int span = part * MOST_SAID + part;
            found[span][0] = row;
            ways[span] = 1;
        }

        private int placeOfCell(int cell) {
            for (int k = 0; k < spokenOf; k++) {
                if (cellOf[k] == cell) {
                    return k;
                }
            }
            cellOf[spokenOf] = cell;
            spokenOf++;
            return spokenOf - 1;
        }

        void bracket() {
            for (int length = 1; length < parts; length++) {
                for (int first = 0; first + length < parts; first++) {
                    int last = first + length;
                    ways[first * MOST_SAID + last] = 0;
                    for (int cut = first; cut < last; cut++) {
                        joinAt(first, cut, last);
                    }
                }
            }
        }

        private void joinAt(int first, int cut, int last) {
            int left = first * MOST_SAID + cut;
            int right = (cut + 1) * MOST_SAID + last;
            int whole = first * MOST_SAID + last;
            for (int a = 0; a < ways[left]; a++) {
                for (int b = 0; b < ways[right] && ways[whole] < MOST_WAYS; b++) {
                    int one = found[left][a];
                    int other = found[right][b];
                    found[whole][ways[whole]] = joint[cut] == 1 ? one | other : one & other;
                    ways[whole]++;
                }
            }
        }

        int all() {
            return ways[parts - 1];
        }

        int unlike() {
            int many = 0;
            for (int k = 0; k < all(); k++) {
                if (isNew(k)) {
                    many++;
                }
            }
            return many;
        }

        private boolean isNew(int k) {
            int[] rows = found[parts - 1];
            for (int j = 0; j < k; j++) {
                if (rows[j] == rows[k]) {
                    return false;
                }
            }
            return true;
        }

        int heldIn(boolean kindest) {
            sortPlans();
            int best = plansOf(0);
            for (int k = 1; k < all(); k++) {
                int many = plansOf(k);
                best = kindest ? Math.max(best, many) : Math.min(best, many);
            }
            return best;
        }

        private void sortPlans() {
            Arrays.fill(plansIn, 0);
            for (int k = 0; k < choices.ables; k++) {
                int weather = sky.weatherOf(choices.able[k]);
                int c = 0;
                for (int j = 0; j < spokenOf; j++) {
                    c |= (weather >> cellOf[j] & 1) << j;
                }
                plansIn[c]++;
            }
        }

        private int plansOf(int k) {
            int row = found[parts - 1][k];
            int many = 0;
            for (int c = 0; c < CASES; c++) {
                many += (row >> c & 1) * plansIn[c];
            }
            return many;
        }
    }

    /** What nights to come are worth by their clouds, times how many weights there are for each night. */
    private static final class Holding {
        static final int MOST_NIGHTS = 6;
        private static final int MOST_WEIGHTS = 6;

        private final int[] weights = new int[MOST_WEIGHTS];
        private int many;
        private final long[][] worth = new long[MOST_NIGHTS + 1][MOST_CLOUDS + 1];
        private final long[] scale = new long[MOST_NIGHTS + 1];

        boolean take(Tray tray) {
            many = tray.many;
            if (many < 1 || many > MOST_WEIGHTS) {
                return false;
            }
            for (int k = 0; k < many; k++) {
                if (tray.row[k] < 0 || tray.row[k] > 99) {
                    return false;
                }
                weights[k] = (int) tray.row[k];
            }
            return true;
        }

        /** Row 0 and, in each row, the place without clouds stay 0. */
        void reckon(int nights) {
            scale[0] = 1;
            for (int n = 1; n <= nights; n++) {
                scale[n] = scale[n - 1] * many;
                for (int c = 1; c <= MOST_CLOUDS; c++) {
                    long sum = 0;
                    for (int k = 0; k < many; k++) {
                        sum += Math.max(byGranting(weights[k], n, c), worth[n - 1][c]);
                    }
                    worth[n][c] = sum;
                }
            }
        }

        private long byGranting(int weight, int n, int c) {
            return weight * scale[n - 1] + worth[n - 1][c - 1];
        }

        long worthOf(int n, int c) {
            return worth[n][c];
        }

        int leastNow(int n, int c) {
            int least = NONE;
            for (int k = 0; k < many && c > 0; k++) {
                boolean noWorse = byGranting(weights[k], n, c) >= worth[n - 1][c];
                if (noWorse && (least == NONE || weights[k] < least)) {
                    least = weights[k];
                }
            }
            return least;
        }
    }

    /** A row of numbers of one sort; missing while it has NONE. */
    private static final class Tray {
        private int sort;
        int many = NONE;
        final long[] row = new long[MOST_PLACES];

        void lay(int newSort, int newMany) {
            sort = newSort;
            many = newMany;
            Arrays.fill(row, 0L);
        }

        long put(int place, long v) {
            long cut = v;
            if (sort == 0) {
                cut = (byte) v;
            } else if (sort == 1) {
                cut = (short) v;
            } else if (sort == 2) {
                cut = (int) v;
            }
            row[place] = cut;
            return cut;
        }
    }
}
