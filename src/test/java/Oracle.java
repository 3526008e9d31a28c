import java.util.ArrayDeque;
import java.util.ArrayList;
import java.util.BitSet;
import java.util.Comparator;
import java.util.HashSet;
import java.util.List;
import java.util.NoSuchElementException;
import java.util.Set;

/** The document once more, as slowly and plainly as can be: what RainWishes is held against. */
final class Oracle {
    static final int NONE = -1;

    /** A refusal of a text. */
    static final class Fault extends RuntimeException {
        final int kind;
        final int place;

        Fault(int kind, int place) {
            super(null, null, false, false);
            this.kind = kind;
            this.place = place;
        }
    }

    interface Num {
        long of(int weather);
    }

    interface Truth {
        boolean in(int weather);
    }

    static final class Wish {
        int by;
        int weight = 1;
        boolean must;
        Truth truth;
    }

    static final class Sky {
        int parishes;
        int days;
        int clouds = 3;
        int wind;
        int lines;
        final List<Wish> wishes = new ArrayList<>();

        int cells() {
            return parishes * days;
        }
    }

    static final class State {
        boolean[] open = new boolean[0];
        int[] age = new int[0];
        int[] owes = new int[6];

        State copy() {
            State s = new State();
            s.open = open.clone();
            s.age = age.clone();
            s.owes = owes.clone();
            return s;
        }
    }

    static final class Picture {
        Sky sky;
        State state;
        ArrayDeque<State> past;
    }

    static final class Row {
        int sort;
        long[] numbers;
    }

    private final StringBuilder tape = new StringBuilder();
    private int fault;
    private int faultPlace = NONE;
    private Sky sky = new Sky();
    private State now = new State();
    private ArrayDeque<State> past = new ArrayDeque<>();
    private final Row[] trays = new Row[4];
    private final Picture[] pictures = new Picture[3];

    // ---------------------------------------------------------------- the text

    /** Reads by recursion, with the whole text cut into tokens beforehand. */
    static final class Reader {
        final String text;
        final List<String> tokens = new ArrayList<>();
        final List<Integer> places = new ArrayList<>();
        int at;
        final Sky sky = new Sky();

        Reader(String text) {
            this.text = text;
            int k = 0;
            while (k < text.length()) {
                char c = text.charAt(k);
                if (c == ' ' || c == '\n') {
                    k++;
                    continue;
                }
                int e = k + 1;
                if (c >= 'a' && c <= 'z') {
                    while (e < text.length() && text.charAt(e) >= 'a' && text.charAt(e) <= 'z') {
                        e++;
                    }
                } else if (c >= '0' && c <= '9') {
                    while (e < text.length() && text.charAt(e) >= '0' && text.charAt(e) <= '9') {
                        e++;
                    }
                }
                tokens.add(text.substring(k, e));
                places.add(k);
                k = e;
            }
            tokens.add("");
            places.add(text.length());
        }

        String token() {
            return tokens.get(at);
        }

        Fault bad(int kind) {
            String t = token();
            boolean known = t.isEmpty() || t.matches("[a-z]+|[0-9]{1,3}|[-;:+*()\\[\\]=<>]");
            return new Fault(known ? kind : 1, places.get(at));
        }

        boolean has(String word) {
            if (token().equals(word)) {
                at++;
                return true;
            }
            return false;
        }

        void need(String word) {
            if (!has(word)) {
                throw bad(2);
            }
        }

        int number(int low, int high) {
            if (!token().matches("[0-9]{1,3}")) {
                throw bad(2);
            }
            int n = Integer.parseInt(token());
            if (n < low || n > high) {
                throw bad(3);
            }
            at++;
            return n;
        }

        Sky read() {
            need("sky");
            sky.parishes = number(1, 4);
            int most = 0;
            for (int d = 1; d <= 6; d++) {
                if (sky.parishes * d <= 12) {
                    most = d;
                }
            }
            sky.days = number(1, most);
            need(";");
            sky.lines = 1;
            while (!token().isEmpty()) {
                if (has("clouds")) {
                    sky.clouds = number(0, 6);
                } else if (has("wind")) {
                    sky.wind = number(0, 3);
                } else if (token().equals("wish")) {
                    if (sky.wishes.size() == 10) {
                        throw bad(4);
                    }
                    at++;
                    Wish w = new Wish();
                    need("by");
                    w.by = number(0, 5);
                    if (has("weight")) {
                        w.weight = number(1, 9);
                    }
                    w.must = has("must");
                    need(":");
                    w.truth = truth(0);
                    sky.wishes.add(w);
                } else {
                    throw bad(2);
                }
                need(";");
                sky.lines++;
            }
            return sky;
        }

        Truth truth(int depth) {
            Truth t = both(depth);
            while (has("or")) {
                Truth a = t;
                Truth b = both(depth);
                t = w -> a.in(w) || b.in(w);
            }
            return t;
        }

        Truth both(int depth) {
            Truth t = unit(depth);
            while (has("and")) {
                Truth a = t;
                Truth b = unit(depth);
                t = w -> a.in(w) && b.in(w);
            }
            return t;
        }

        void deeper(int depth) {
            if (depth == 6) {
                throw bad(4);
            }
            at++;
        }

        Truth unit(int depth) {
            if (token().equals("not")) {
                deeper(depth);
                Truth t = unit(depth + 1);
                return w -> !t.in(w);
            }
            if (token().equals("[")) {
                deeper(depth);
                Truth t = truth(depth + 1);
                need("]");
                return t;
            }
            Num a = sum(depth);
            String sign = token();
            if (!sign.equals("=") && !sign.equals("<") && !sign.equals(">")) {
                throw bad(2);
            }
            at++;
            Num b = sum(depth);
            if (sign.equals("=")) {
                return w -> a.of(w) == b.of(w);
            }
            return sign.equals("<") ? w -> a.of(w) < b.of(w) : w -> a.of(w) > b.of(w);
        }

        static long keep(long n) {
            return n > 1_000_000 ? 1_000_000 : n < -1_000_000 ? -1_000_000 : n;
        }

        Num sum(int depth) {
            Num n = term(depth);
            while (true) {
                Num a = n;
                if (has("+")) {
                    Num b = term(depth);
                    n = w -> keep(a.of(w) + b.of(w));
                } else if (has("-")) {
                    Num b = term(depth);
                    n = w -> keep(a.of(w) - b.of(w));
                } else {
                    return n;
                }
            }
        }

        Num term(int depth) {
            Num n = atom(depth);
            while (has("*")) {
                Num a = n;
                Num b = atom(depth);
                n = w -> keep(a.of(w) * b.of(w));
            }
            return n;
        }

        boolean wet(int weather, int parish, int day) {
            return (weather >> (sky.days * parish + day) & 1) == 1;
        }

        Num atom(int depth) {
            if (has("wet")) {
                int p = number(0, sky.parishes - 1);
                int d = number(0, sky.days - 1);
                return w -> wet(w, p, d) ? 1 : 0;
            }
            if (has("of")) {
                int p = number(0, sky.parishes - 1);
                return w -> {
                    int n = 0;
                    for (int d = 0; d < sky.days; d++) {
                        n += wet(w, p, d) ? 1 : 0;
                    }
                    return n;
                };
            }
            if (has("on")) {
                int d = number(0, sky.days - 1);
                return w -> {
                    int n = 0;
                    for (int p = 0; p < sky.parishes; p++) {
                        n += wet(w, p, d) ? 1 : 0;
                    }
                    return n;
                };
            }
            if (has("all")) {
                return Integer::bitCount;
            }
            if (token().equals("(")) {
                deeper(depth);
                Num n = sum(depth + 1);
                need(")");
                return n;
            }
            int n = number(0, 999);
            return w -> n;
        }
    }

    int feed(int a, int b, int c, int d, int e) {
        if (tape.length() > 880) {
            return NONE;
        }
        for (int v : new int[] {a, b, c, d, e}) {
            tape.append((char) (v >>> 24)).append((char) (v >>> 16 & 255));
            tape.append((char) (v >>> 8 & 255)).append((char) (v & 255));
        }
        return tape.length();
    }

    int sky(int n) {
        if (n < 0 || n > tape.length()) {
            throw new IllegalArgumentException();
        }
        String text = tape.substring(0, n);
        tape.setLength(0);
        try {
            sky = new Reader(text).read();
        } catch (Fault f) {
            fault = f.kind;
            faultPlace = f.place;
            return -10 - f.kind;
        }
        fault = 0;
        faultPlace = NONE;
        now = new State();
        now.open = new boolean[sky.wishes.size()];
        java.util.Arrays.fill(now.open, true);
        now.age = new int[sky.wishes.size()];
        past = new ArrayDeque<>();
        return sky.lines;
    }

    int fault(int what) {
        return what == 0 ? fault : what == 1 ? faultPlace : NONE;
    }

    private Wish wishThere(int i) {
        if (i < 0 || i >= sky.wishes.size()) {
            throw new NoSuchElementException();
        }
        return sky.wishes.get(i);
    }

    int wish(int i, int what) {
        Wish w = wishThere(i);
        switch (what) {
            case 0: return w.by;
            case 1: return w.weight;
            case 2: return w.must ? 1 : 0;
            case 3: return now.open[i] ? 1 : 0;
            case 4: return now.age[i];
            case 5:
                int n = 0;
                for (int x = 0; x < 1 << sky.cells(); x++) {
                    n += w.truth.in(x) ? 1 : 0;
                }
                return n;
            default: throw new IllegalArgumentException();
        }
    }

    // ---------------------------------------------------------------- plans

    private void cellsOnly(int set) {
        if ((set & -(1 << sky.cells())) != 0) {
            throw new IllegalArgumentException();
        }
    }

    private int weatherOf(int plan) {
        int w = plan;
        if (sky.wind >= 1) {
            for (int p = 0; p < sky.parishes; p++) {
                for (int d = 0; d < sky.days; d++) {
                    boolean there = p + sky.wind < sky.parishes && d + 1 < sky.days;
                    if (there && (plan >> (sky.days * p + d) & 1) == 1) {
                        w |= 1 << (sky.days * (p + sky.wind) + d + 1);
                    }
                }
            }
        }
        return w;
    }

    int weather(int plan) {
        cellsOnly(plan);
        return weatherOf(plan);
    }

    boolean holds(int i, int weather) {
        Wish w = wishThere(i);
        cellsOnly(weather);
        return w.truth.in(weather);
    }

    private int whyNot(long plan, State s) {
        if (plan < 0 || plan >= 1L << sky.cells()) {
            return 1;
        }
        if (Long.bitCount(plan) > sky.clouds) {
            return 2;
        }
        for (int i = 0; i < s.open.length; i++) {
            Wish w = sky.wishes.get(i);
            if (w.must && s.open[i] && !w.truth.in(weatherOf((int) plan))) {
                return 3;
            }
        }
        return 0;
    }

    private int grantedIn(int plan, State s) {
        int set = 0;
        for (int i = 0; i < s.open.length; i++) {
            if (s.open[i] && sky.wishes.get(i).truth.in(weatherOf(plan))) {
                set |= 1 << i;
            }
        }
        return set;
    }

    int why(int plan) {
        return whyNot(plan, now);
    }

    int granted(int plan) {
        cellsOnly(plan);
        return grantedIn(plan, now);
    }

    private Sky ableSky;
    private int ableOpen;
    private List<Integer> ableList;
    private Set<Integer> ableSets;

    /** All plans that can be, those with the fewest cells first, then the least; found once for a sky and what is open. */
    private List<Integer> able() {
        if (ableSky == sky && ableOpen == openSet()) {
            return ableList;
        }
        List<Integer> list = new ArrayList<>();
        for (int p = 0; p < 1 << sky.cells(); p++) {
            if (whyNot(p, now) == 0) {
                list.add(p);
            }
        }
        list.sort(Comparator.comparingInt((Integer p) -> Integer.bitCount(p)).thenComparingInt(p -> p));
        ableSky = sky;
        ableOpen = openSet();
        ableList = list;
        ableSets = new HashSet<>();
        for (int p : list) {
            ableSets.add(grantedIn(p, now));
        }
        return list;
    }

    int plans() {
        return able().size();
    }

    private int openSet() {
        int set = 0;
        for (int i = 0; i < now.open.length; i++) {
            set |= now.open[i] ? 1 << i : 0;
        }
        return set;
    }

    private void openOnly(int set) {
        if ((set & ~openSet()) != 0) {
            throw new IllegalArgumentException();
        }
    }

    private int least(int set) {
        for (int p : able()) {
            if ((grantedIn(p, now) & set) == set) {
                return p;
            }
        }
        return NONE;
    }

    /** All sets in the order of how many they have, then as bits. */
    private List<Integer> parts(int set) {
        List<Integer> list = new ArrayList<>();
        for (int k = 0; k < 1024; k++) {
            if ((k | set) == set) {
                list.add(k);
            }
        }
        list.sort(Comparator.comparingInt((Integer p) -> Integer.bitCount(p)).thenComparingInt(p -> p));
        return list;
    }

    /** The sets that plans grant, to ask often whether a set is together. */
    private Set<Integer> grantedSets() {
        able();
        return ableSets;
    }

    private static boolean within(int set, Set<Integer> sets) {
        for (int g : sets) {
            if ((g & set) == set) {
                return true;
            }
        }
        return false;
    }

    int together(int set) {
        openOnly(set);
        return least(set);
    }

    int quarrel(int set) {
        openOnly(set);
        Set<Integer> sets = grantedSets();
        for (int part : parts(set)) {
            if (!within(part, sets)) {
                return part;
            }
        }
        return NONE;
    }

    private void openOne(int i) {
        wishThere(i);
        if (!now.open[i]) {
            throw new IllegalArgumentException();
        }
    }

    int foes(int i) {
        openOne(i);
        Set<Integer> sets = grantedSets();
        int foes = 0;
        for (int j = 0; j < now.open.length; j++) {
            if (now.open[j] && within(1 << i, sets) && !within(1 << i | 1 << j, sets)) {
                foes |= 1 << j;
            }
        }
        return foes;
    }

    private int weigh(int set) {
        int sum = 0;
        for (int i = 0; i < sky.wishes.size(); i++) {
            sum += (set >> i & 1) * sky.wishes.get(i).weight;
        }
        return sum;
    }

    int most(int what) {
        if (what < 0 || what > 2) {
            throw new IllegalArgumentException();
        }
        int best = NONE;
        for (int p : able()) {
            if (best == NONE || weigh(grantedIn(p, now)) > weigh(grantedIn(best, now))) {
                best = p;
            }
        }
        if (best == NONE || what == 2) {
            return best;
        }
        return what == 0 ? weigh(grantedIn(best, now)) : grantedIn(best, now);
    }

    /** By rounds: which sets can be covered by so many nights. */
    int nights() {
        Set<Integer> sets = grantedSets();
        Set<Integer> covered = new HashSet<>();
        covered.add(0);
        for (int n = 0; n <= 10; n++) {
            if (covered.contains(openSet())) {
                return n;
            }
            Set<Integer> next = new HashSet<>(covered);
            for (int c : covered) {
                for (int g : sets) {
                    next.add(c | g);
                }
            }
            covered = next;
        }
        return NONE;
    }

    int hearts(int i, int what) {
        openOne(i);
        if (what != 0 && what != 1) {
            throw new IllegalArgumentException();
        }
        Set<Integer> sets = grantedSets();
        for (int part : parts(openSet() & ~(1 << i))) {
            boolean fine = true;
            for (int j = 0; j < now.open.length; j++) {
                fine &= (part >> j & 1) == 0 || !sky.wishes.get(j).must;
            }
            if (fine && within(openSet() & ~part, sets)) {
                return what == 0 ? Integer.bitCount(part) : part;
            }
        }
        return NONE;
    }

    int follows(int i) {
        openOne(i);
        int set = openSet() & ~(1 << i);
        for (int p : able()) {
            if ((grantedIn(p, now) >> i & 1) == 1) {
                set &= grantedIn(p, now);
            }
        }
        return set;
    }

    int sure(int set, boolean wet) {
        openOnly(set);
        if (least(set) == NONE) {
            return NONE;
        }
        int cells = 0;
        for (int c = 0; c < sky.cells(); c++) {
            boolean each = true;
            for (int p : able()) {
                if ((grantedIn(p, now) & set) == set) {
                    each &= (weatherOf(p) >> c & 1) == (wet ? 1 : 0);
                }
            }
            cells |= each ? 1 << c : 0;
        }
        return cells;
    }

    // ---------------------------------------------------------------- chance

    private long expect(int left, int put, int h) {
        if (left == 0) {
            return weigh(grantedIn(put, now));
        }
        int bit = Integer.lowestOneBit(left);
        return h * expect(left & ~bit, put | bit, h) + (100 - h) * expect(left & ~bit, put, h);
    }

    long expected(int plan, int h) {
        cellsOnly(plan);
        if (Integer.bitCount(plan) > 4 || h < 0 || h > 100) {
            throw new IllegalArgumentException();
        }
        return expect(plan, 0, h);
    }

    int bestChance(int h) {
        if (h < 0 || h > 100) {
            throw new IllegalArgumentException();
        }
        int best = NONE;
        long bestWorth = 0;
        for (int p : able()) {
            if (Integer.bitCount(p) <= 3) {
                long worth = expect(p, 0, h);
                for (int k = Integer.bitCount(p); k < 3; k++) {
                    worth *= 100;
                }
                if (best == NONE || worth > bestWorth) {
                    best = p;
                    bestWorth = worth;
                }
            }
        }
        return best;
    }

    // ---------------------------------------------------------------- rules

    private int serve(int rule, int open, int[] weight, int[] age) {
        List<Integer> order = new ArrayList<>();
        for (int i = 0; i < sky.wishes.size(); i++) {
            if ((open >> i & 1) == 1) {
                order.add(i);
            }
        }
        int[] many = new int[6];
        for (int i : order) {
            many[sky.wishes.get(i).by]++;
        }
        Set<Integer> sets = grantedSets();
        Comparator<Integer> by;
        if (rule == 0) {
            by = Comparator.comparingInt((Integer i) -> -age[i]);
        } else if (rule == 1) {
            by = Comparator.comparingInt((Integer i) -> -weight[i]);
        } else if (rule == 2) {
            by = Comparator.comparingInt((Integer i) -> many[sky.wishes.get(i).by]);
        } else {
            int[] cells = new int[10];
            for (int i : order) {
                cells[i] = least(1 << i) == NONE ? 1000 : Integer.bitCount(least(1 << i));
            }
            by = Comparator.comparingInt((Integer i) -> cells[i]);
        }
        order.sort(by.thenComparingInt(i -> i));
        int served = 0;
        for (int i : order) {
            if (within(served | 1 << i, sets)) {
                served |= 1 << i;
            }
        }
        return served;
    }

    private int[] weights() {
        int[] w = new int[sky.wishes.size()];
        for (int i = 0; i < w.length; i++) {
            w[i] = sky.wishes.get(i).weight;
        }
        return w;
    }

    private int own(int person, int set) {
        int sum = 0;
        for (int i = 0; i < sky.wishes.size(); i++) {
            Wish w = sky.wishes.get(i);
            sum += w.by == person && (set >> i & 1) == 1 ? w.weight : 0;
        }
        return sum;
    }

    int served(int rule) {
        if (rule < 0 || rule > 3) {
            throw new IllegalArgumentException();
        }
        return serve(rule, openSet(), weights(), now.age);
    }

    int share(int person, int rule) {
        if (person < 0 || person > 5) {
            throw new IllegalArgumentException();
        }
        return own(person, served(rule));
    }

    int gains(int person, int rule, int what) {
        int usual = share(person, rule);
        if (what != 0 && what != 1) {
            throw new IllegalArgumentException();
        }
        int gain = 0;
        int form = NONE;
        for (int f = 10; f < 40; f++) {
            int i = f % 10;
            if (i >= sky.wishes.size() || !now.open[i] || sky.wishes.get(i).by != person) {
                continue;
            }
            int open = openSet();
            int[] weight = weights();
            int[] age = now.age.clone();
            if (f < 20) {
                if (sky.wishes.get(i).must) {
                    continue;
                }
                open &= ~(1 << i);
            } else if (f < 30) {
                weight[i] = 9;
            } else {
                age[i] += 9;
            }
            int more = own(person, serve(rule, open, weight, age)) - usual;
            if (more > gain) {
                gain = more;
                form = f;
            }
        }
        return what == 0 ? gain : form;
    }

    int bestRule() {
        int best = 0;
        for (int r = 1; r < 4; r++) {
            if (weigh(served(r)) > weigh(served(best))) {
                best = r;
            }
        }
        return best;
    }

    // ---------------------------------------------------------------- what was meant

    private long[] there(int tray) {
        if (tray < 0 || tray > 3) {
            throw new NoSuchElementException();
        }
        if (trays[tray] == null) {
            throw new IllegalStateException();
        }
        return trays[tray].numbers;
    }

    int wants(int tray, int what) {
        long[] row = there(tray);
        if (sky.parishes == 0) {
            throw new IllegalStateException();
        }
        if (row.length < 1 || row.length > 12) {
            throw new IllegalArgumentException();
        }
        for (long v : row) {
            if (v < 0 || v >= 2L << sky.cells()) {
                throw new IllegalArgumentException();
            }
        }
        if (what != 0 && what != 1 && what != 10 && what != 11 && what != 12) {
            throw new IllegalArgumentException();
        }
        for (int size = 0; size <= 3; size++) {
            List<int[]> fit = new ArrayList<>();
            int[] pick = new int[size];
            collect(row, pick, 0, fit);
            if (!fit.isEmpty()) {
                if (what < 10) {
                    return what == 0 ? size : fit.size();
                }
                return what - 10 < size ? fit.get(0)[what - 10] : NONE;
            }
        }
        return NONE;
    }

    private void collect(long[] row, int[] pick, int k, List<int[]> fit) {
        if (k == pick.length) {
            for (long v : row) {
                boolean all = true;
                for (int n : pick) {
                    all &= (v >> 1 + n / 2 & 1) == n % 2;
                }
                if (all != (v % 2 == 1)) {
                    return;
                }
            }
            fit.add(pick.clone());
            return;
        }
        for (int n = 0; n < 2 * sky.cells(); n++) {
            if (k == 0 || n / 2 > pick[k - 1] / 2) {
                pick[k] = n;
                collect(row, pick, k + 1, fit);
            }
        }
    }

    private List<Truth> bracketed(long[] row, int first, int last) {
        List<Truth> list = new ArrayList<>();
        if (first == last) {
            int n = (int) row[first];
            list.add(w -> (w >> n / 2 & 1) == n % 2);
            return list;
        }
        for (int cut = first + 1; cut < last; cut += 2) {
            boolean or = row[cut] == 1;
            for (Truth a : bracketed(row, first, cut - 1)) {
                for (Truth b : bracketed(row, cut + 1, last)) {
                    list.add(or ? w -> a.in(w) || b.in(w) : w -> a.in(w) && b.in(w));
                }
            }
        }
        return list;
    }

    int readings(int tray, int what) {
        long[] row = there(tray);
        if (row.length % 2 == 0 || row.length > 9 || what < 0 || what > 3) {
            throw new IllegalArgumentException();
        }
        for (int k = 0; k < row.length; k++) {
            if (row[k] < 0 || row[k] >= (k % 2 == 0 ? 2 * sky.cells() : 2)) {
                throw new IllegalArgumentException();
            }
        }
        List<Truth> all = bracketed(row, 0, row.length - 1);
        if (what == 0) {
            return all.size();
        }
        if (what == 1) {
            Set<BitSet> unlike = new HashSet<>();
            for (Truth t : all) {
                BitSet bits = new BitSet();
                for (int w = 0; w < 1 << sky.cells(); w++) {
                    bits.set(w, t.in(w));
                }
                unlike.add(bits);
            }
            return unlike.size();
        }
        int low = Integer.MAX_VALUE;
        int high = 0;
        for (Truth t : all) {
            int n = 0;
            for (int p : able()) {
                n += t.in(weatherOf(p)) ? 1 : 0;
            }
            low = Math.min(low, n);
            high = Math.max(high, n);
        }
        return what == 2 ? high : low;
    }

    // ---------------------------------------------------------------- deeds

    private void deed() {
        past.addLast(now.copy());
        if (past.size() > 10) {
            past.removeFirst();
        }
    }

    private int nightIn(int plan, State s) {
        int set = grantedIn(plan, s);
        for (int i = 0; i < s.open.length; i++) {
            if ((set >> i & 1) == 1) {
                s.open[i] = false;
                s.owes[sky.wishes.get(i).by] += sky.wishes.get(i).weight;
            } else if (s.open[i]) {
                s.age[i]++;
            }
        }
        return weigh(set);
    }

    int night(int plan) {
        if (whyNot(plan, now) != 0) {
            return -whyNot(plan, now);
        }
        deed();
        return nightIn(plan, now);
    }

    int thank(int person, int n) {
        if (person < 0 || person > 5 || n < 1 || n > 99) {
            throw new IllegalArgumentException();
        }
        deed();
        return now.owes[person] -= n;
    }

    int owes(int person) {
        if (person < 0 || person > 5) {
            throw new IllegalArgumentException();
        }
        return now.owes[person];
    }

    int withdraw(int i) {
        wishThere(i);
        if (!now.open[i]) {
            throw new IllegalStateException();
        }
        deed();
        now.open[i] = false;
        return Integer.bitCount(openSet());
    }

    int again(int i) {
        wishThere(i);
        if (now.open[i]) {
            throw new IllegalStateException();
        }
        deed();
        now.open[i] = true;
        now.age[i] = 0;
        return Integer.bitCount(openSet());
    }

    int undo(int n) {
        if (n < 1 || n > 10 || n > past.size()) {
            throw new IllegalArgumentException();
        }
        for (int k = 0; k < n; k++) {
            now = past.removeLast();
        }
        return past.size();
    }

    int judge(int tray, int what) {
        long[] row = there(tray);
        if (what < 0 || what > 3) {
            throw new IllegalArgumentException();
        }
        State s = now.copy();
        int weight = 0;
        for (int k = 0; k < row.length; k++) {
            int why = whyNot(row[k], s);
            if (why != 0) {
                return what == 0 ? k : what == 1 ? why : what == 2 ? weight : openIn(s);
            }
            weight += nightIn((int) row[k], s);
        }
        return what == 0 ? NONE : what == 1 ? 0 : what == 2 ? weight : openIn(s);
    }

    private int openIn(State s) {
        int n = 0;
        for (boolean o : s.open) {
            n += o ? 1 : 0;
        }
        return n;
    }

    int perform(int tray) {
        long[] row = there(tray);
        int made = 0;
        for (long v : row) {
            if (whyNot(v, now) != 0) {
                break;
            }
            night((int) v);
            made++;
        }
        return made;
    }

    int season(int seed, int times) {
        if (times < 1 || times > 30) {
            throw new IllegalArgumentException();
        }
        if (sky.parishes == 0) {
            throw new IllegalStateException();
        }
        int[] x = {seed};
        int made = 0;
        for (int t = 0; t < times; t++) {
            int many = draw(x) % (sky.clouds + 1);
            Set<Integer> put = new HashSet<>();
            for (int k = 0; k < many; k++) {
                put.add(draw(x) % sky.cells());
            }
            int plan = 0;
            for (int c : put) {
                plan += 1 << c;
            }
            made += night(plan) >= 0 ? 1 : 0;
        }
        return made;
    }

    private static int draw(int[] x) {
        x[0] = 1103515245 * x[0] + 12345;
        return x[0] >>> 16;
    }

    // ---------------------------------------------------------------- holding back

    private static long power(int a, int n) {
        return n == 0 ? 1 : a * power(a, n - 1);
    }

    /** All that may come, one behind the other; the best in each case. */
    private static long worth(long[] row, int n, int c) {
        if (n == 0) {
            return 0;
        }
        long sum = 0;
        for (long w : row) {
            long held = worth(row, n - 1, c);
            sum += c == 0 ? held : Math.max(held, w * power(row.length, n - 1) + worth(row, n - 1, c - 1));
        }
        return sum;
    }

    private long[] weightsIn(int tray, int n, int c) {
        long[] row = there(tray);
        if (n < 1 || n > 6 || c < 0 || c > 6 || row.length < 1 || row.length > 6) {
            throw new IllegalArgumentException();
        }
        for (long w : row) {
            if (w < 0 || w > 99) {
                throw new IllegalArgumentException();
            }
        }
        return row;
    }

    long holding(int tray, int n, int c) {
        return worth(weightsIn(tray, n, c), n, c);
    }

    int grants(int tray, int n, int c) {
        long[] row = weightsIn(tray, n, c).clone();
        java.util.Arrays.sort(row);
        for (long w : row) {
            if (c > 0 && w * power(row.length, n - 1) + worth(row, n - 1, c - 1) >= worth(row, n - 1, c)) {
                return (int) w;
            }
        }
        return NONE;
    }

    // ---------------------------------------------------------------- trays, images

    void tray(int tray, int sort, int many) {
        if (tray < 0 || tray > 3) {
            throw new NoSuchElementException();
        }
        if (sort < 0 || sort > 3 || many < 0 || many > 30) {
            throw new IllegalArgumentException();
        }
        trays[tray] = new Row();
        trays[tray].sort = sort;
        trays[tray].numbers = new long[many];
    }

    long write(int tray, int place, long v) {
        long[] row = there(tray);
        if (place < 0 || place >= row.length) {
            throw new IndexOutOfBoundsException();
        }
        int bits = 8 << trays[tray].sort;
        row[place] = v << 64 - bits >> 64 - bits;
        return row[place];
    }

    int pour(int tray) {
        long[] row = there(tray);
        List<Integer> list = new ArrayList<>(able());
        list.sort(Comparator.naturalOrder());
        int n = 0;
        while (n < row.length && n < list.size()) {
            write(tray, n, list.get(n));
            n++;
        }
        return n;
    }

    void image(int i) {
        if (i < 0 || i > 2) {
            throw new NoSuchElementException();
        }
        pictures[i] = new Picture();
        pictures[i].sky = sky;
        pictures[i].state = now.copy();
        pictures[i].past = new ArrayDeque<>();
        for (State s : past) {
            pictures[i].past.addLast(s.copy());
        }
    }

    void restore(int i) {
        if (i < 0 || i > 2) {
            throw new NoSuchElementException();
        }
        if (pictures[i] == null) {
            throw new IllegalStateException();
        }
        sky = pictures[i].sky;
        now = pictures[i].state.copy();
        past = new ArrayDeque<>();
        for (State s : pictures[i].past) {
            past.addLast(s.copy());
        }
    }

    int count(int what) {
        switch (what) {
            case 0: return sky.lines;
            case 1: return sky.parishes;
            case 2: return sky.days;
            case 3: return sky.clouds;
            case 4: return sky.wind;
            case 5: return sky.wishes.size();
            case 6: return openIn(now);
            case 7:
                int sum = 0;
                for (int o : now.owes) {
                    sum += o;
                }
                return sum;
            case 8: return past.size();
            case 9: return tape.length();
            default: return NONE;
        }
    }
}
