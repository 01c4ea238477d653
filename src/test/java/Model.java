import java.math.BigInteger;
import java.util.ArrayList;
import java.util.Arrays;
import java.util.Collections;
import java.util.HashMap;
import java.util.List;
import java.util.Map;
import java.util.Set;
import java.util.TreeMap;
import java.util.regex.Matcher;
import java.util.regex.Pattern;

/**
 * The document written a second time, plainly and with the whole Java library: texts by regular expressions and
 * exceptions, ways by whole paths from the harbour on, games by recursion, odds by big numbers.
 */
final class Model {
    static final int NONE = -1;
    private static final Set<String> WORDS = Set.of(("row odds harbour traveller lies heard told missed calm fear tears sigh "
            + "hear forget sail any when drawn white known loop end stop").split(" "));
    private static final List<String> FEELINGS = List.of("calm", "fear", "tears", "sigh");

    record Telling(int traveller, int cell, int kind, int missed) { }

    record Step(String word, int a, int b, int c, List<Step> inner) { }

    static final class State {
        List<int[]> rows = new ArrayList<>();
        int odds = 4;
        int harbour;
        List<Integer> lies = new ArrayList<>();
        List<String> names = new ArrayList<>();
        List<Boolean> heard = new ArrayList<>();
        List<Telling> tellings = new ArrayList<>();
        List<Step> years;

        State copy() {
            State s = new State();
            for (int[] row : rows) {
                s.rows.add(row.clone());
            }
            s.odds = odds;
            s.harbour = harbour;
            s.lies.addAll(lies);
            s.names.addAll(names);
            s.heard.addAll(heard);
            s.tellings.addAll(tellings);
            s.years = years;
            return s;
        }

        int columns() {
            return rows.isEmpty() ? 0 : rows.get(0).length;
        }

        int cells() {
            return rows.size() * columns();
        }

        int kind(int cell) {
            return rows.get(cell / columns())[cell % columns()];
        }

        int votes(int cell, int kind) {
            return (int) tellings.stream().filter(t -> t.cell == cell && t.kind == kind && heard.get(t.traveller)).count();
        }

        int drawn(int cell) {
            int[] v = {votes(cell, 0), votes(cell, 1), votes(cell, 2), votes(cell, 3)};
            int most = Arrays.stream(v).max().getAsInt();
            long winners = Arrays.stream(v).filter(x -> x == most).count();
            if (most == 0 || winners > 1) {
                return 4;
            }
            return Arrays.stream(v).boxed().toList().indexOf(most);
        }

        int risk(int cell) {
            int d = drawn(cell);
            if (d == 1) {
                return 16;
            }
            return d == 4 ? 6 : 16 * votes(cell, 1) / (votes(cell, 0) + votes(cell, 1) + votes(cell, 2) + votes(cell, 3));
        }

        int white() {
            int n = 0;
            for (int c = 0; c < cells(); c++) {
                n += drawn(c) == 4 ? 1 : 0;
            }
            return n;
        }

        int known() {
            return cells() - white();
        }

        int right() {
            int n = 0;
            for (int c = 0; c < cells(); c++) {
                n += drawn(c) == kind(c) ? 1 : 0;
            }
            return n;
        }

        int toldOf(int cell) {
            return (int) tellings.stream().filter(t -> t.cell == cell).count();
        }

        boolean add(int traveller, int cell, int kind, int missed) {
            if (tellings.size() == 12 || toldOf(cell) == 5) {
                return false;
            }
            tellings.add(new Telling(traveller, cell, kind, missed));
            return true;
        }

        State hearing(int traveller) {
            State s = copy();
            s.heard.set(traveller, true);
            return s;
        }
    }

    static final class Fault extends Exception {
        private static final long serialVersionUID = 1L;
        final int kind;
        final int place;

        Fault(int kind, int place) {
            super("fault", null, false, false);
            this.kind = kind;
            this.place = place;
        }
    }

    /** A reader that looks one token ahead. */
    static final class Reader {
        private static final Pattern TOKEN = Pattern.compile("[a-z]+|[0-9]+|[;<>=]");
        private final String text;
        private int at;
        String token = "";
        int place;

        Reader(String text) throws Fault {
            this.text = text;
        }

        boolean atEnd() {
            return blanks() == text.length();
        }

        private int blanks() {
            int i = at;
            while (i < text.length() && (text.charAt(i) == ' ' || text.charAt(i) == '\n')) {
                i++;
            }
            return i;
        }

        String peek() {
            int i = blanks();
            Matcher m = TOKEN.matcher(text).region(i, text.length());
            return m.lookingAt() ? m.group() : "";
        }

        String next() throws Fault {
            place = blanks();
            if (place == text.length()) {
                throw new Fault(2, place);
            }
            token = peek();
            if (token.isEmpty() || token.matches("[0-9]{5,}")) {
                throw new Fault(1, place);
            }
            at = place + token.length();
            return token;
        }

        Fault fault(int kind) {
            return new Fault(kind, place);
        }

        void sign(String sign) throws Fault {
            if (!next().equals(sign)) {
                throw fault(2);
            }
        }

        int number(int low, int high) throws Fault {
            if (!next().matches("[0-9]+")) {
                throw fault(2);
            }
            int v = Integer.parseInt(token);
            if (v < low || v > high) {
                throw fault(4);
            }
            return v;
        }

        String name() throws Fault {
            if (!next().matches("[a-z]{1,8}") || WORDS.contains(token)) {
                throw fault(2);
            }
            return token;
        }

        int known(State s) throws Fault {
            int i = s.names.indexOf(name());
            if (i < 0) {
                throw fault(3);
            }
            return i;
        }

        int cell(State s) throws Fault {
            int row = number(0, s.rows.size() - 1);
            return row * s.columns() + number(0, s.columns() - 1);
        }

        int feeling() throws Fault {
            int i = FEELINGS.indexOf(next());
            if (i < 0) {
                throw fault(2);
            }
            return i;
        }
    }

    private State now = new State();
    private final List<State> marks = new ArrayList<>();
    private final Map<Integer, long[]> trays = new TreeMap<>();
    private final Map<Integer, Integer> sorts = new HashMap<>();
    private StringBuilder tape = new StringBuilder();
    private int status;
    private BigInteger top = BigInteger.ZERO;
    private BigInteger bottom = BigInteger.ONE;
    private int faultKind = NONE;
    private int faultPlace = NONE;
    private int[] lived;
    // of the life that is being lived
    private int seed;
    private int steps;
    private int[] deeds;

    private int no(int why) {
        status = why;
        return NONE;
    }

    private boolean not(int why) {
        status = why;
        return false;
    }

    private int yes(int value) {
        status = 0;
        return value;
    }

    private boolean yes() {
        status = 0;
        return true;
    }

    private boolean fraction(BigInteger a, BigInteger b) {
        BigInteger g = a.gcd(b);
        top = a.divide(g);
        bottom = b.divide(g);
        return yes();
    }

    private boolean isCell(int cell) {
        return cell >= 0 && cell < now.cells();
    }

    private boolean isTraveller(int who) {
        return who >= 0 && who < now.lies.size();
    }

    private static boolean in(int v, int low, int high) {
        return low <= v && v <= high;
    }

    int status() {
        return status;
    }

    long top() {
        return top.longValueExact();
    }

    long bottom() {
        return bottom.longValueExact();
    }

    boolean tray(int tray, int sort, int many) {
        if (!in(tray, 0, 3) || !in(sort, 0, 3)) {
            return not(1);
        }
        if (many > 60) {
            return not(5);
        }
        if (many < 0) {
            return not(6);
        }
        trays.put(tray, new long[many]);
        sorts.put(tray, sort);
        return yes();
    }

    private int placeStatus(int tray, int place) {
        if (!in(tray, 0, 3)) {
            return 1;
        }
        if (!trays.containsKey(tray)) {
            return 3;
        }
        return in(place, 0, trays.get(tray).length - 1) ? 0 : 4;
    }

    boolean write(int tray, int place, long v) {
        int why = placeStatus(tray, place);
        if (why != 0) {
            return not(why);
        }
        int bits = 8 << sorts.get(tray);
        trays.get(tray)[place] = v << 64 - bits >> 64 - bits;
        return yes();
    }

    long read(int tray, int place) {
        int why = placeStatus(tray, place);
        if (why != 0) {
            return no(why);
        }
        status = 0;
        return trays.get(tray)[place];
    }

    boolean pour(int tray, int i, int to, int j, int many) {
        if (!in(tray, 0, 3) || !in(to, 0, 3)) {
            return not(1);
        }
        if (!trays.containsKey(tray) || !trays.containsKey(to)) {
            return not(3);
        }
        if (!sorts.get(tray).equals(sorts.get(to))) {
            return not(11);
        }
        if (many < 0) {
            return not(6);
        }
        long[] from = trays.get(tray).clone();
        long[] into = trays.get(to);
        if (i < 0 || j < 0 || (long) i + many > from.length || (long) j + many > into.length) {
            return not(4);
        }
        for (int k = 0; k < many; k++) {
            into[j + k] = from[i + k];
        }
        return yes();
    }

    int feed(int a, int b, int c, int d, int e) {
        if (tape.length() > 880) {
            return NONE;
        }
        for (int v : new int[] {a, b, c, d, e}) {
            tape.append((char) (v >>> 24)).append((char) (v >>> 16 & 255)).append((char) (v >>> 8 & 255)).append((char) (v & 255));
        }
        return tape.length();
    }

    private String takeTape(int n) {
        String text = tape.substring(0, n);
        tape = new StringBuilder();
        faultKind = 0;
        faultPlace = NONE;
        return text;
    }

    private int faulty(Fault fault) {
        faultKind = fault.kind;
        faultPlace = fault.place;
        return no(10);
    }

    int duchy(int n) {
        if (!in(n, 0, tape.length())) {
            return no(5);
        }
        String text = takeTape(n);
        try {
            now = readDuchy(new Reader(text));
        } catch (Fault fault) {
            return faulty(fault);
        }
        return yes(now.cells());
    }

    private static State readDuchy(Reader r) throws Fault {
        State s = new State();
        boolean odds = false;
        boolean harbour = false;
        while (!r.atEnd()) {
            String word = r.next();
            if (word.equals("row")) {
                if (harbour || !s.tellings.isEmpty()) {
                    throw r.fault(5);
                }
                if (s.rows.size() == 6) {
                    throw r.fault(6);
                }
                String cells = r.next();
                if (!cells.matches("[a-z]+")) {
                    throw r.fault(2);
                }
                if (!cells.matches("[srbi]{1,6}") || !s.rows.isEmpty() && s.columns() != cells.length()) {
                    throw r.fault(4);
                }
                s.rows.add(cells.chars().map("srbi"::indexOf).toArray());
            } else if (word.equals("odds")) {
                if (odds) {
                    throw r.fault(5);
                }
                odds = true;
                s.odds = r.number(0, 16);
            } else if (word.equals("harbour")) {
                if (harbour) {
                    throw r.fault(5);
                }
                harbour = true;
                s.harbour = r.cell(s);
            } else if (word.equals("traveller")) {
                readTraveller(r, s);
            } else if (word.equals("told")) {
                readTold(r, s);
            } else {
                throw r.fault(2);
            }
            r.sign(";");
        }
        return s;
    }

    private static void readTraveller(Reader r, State s) throws Fault {
        if (s.lies.size() == 5) {
            throw r.fault(6);
        }
        String name = r.name();
        if (s.names.contains(name)) {
            throw r.fault(3);
        }
        int lies = 0;
        if (r.peek().equals("lies")) {
            r.next();
            lies = r.number(0, 16);
        }
        boolean heard = r.peek().equals("heard");
        if (heard) {
            r.next();
        }
        s.names.add(name);
        s.lies.add(lies);
        s.heard.add(heard);
    }

    private static void readTold(Reader r, State s) throws Fault {
        if (s.tellings.size() == 12) {
            throw r.fault(6);
        }
        int who = r.known(s);
        int cell = r.cell(s);
        if (s.toldOf(cell) == 5) {
            throw r.fault(5);
        }
        int kind = r.feeling();
        int missed = 0;
        if (r.peek().equals("missed")) {
            r.next();
            missed = r.number(0, 9);
        }
        s.tellings.add(new Telling(who, cell, kind, missed));
    }

    int years(int n) {
        if (n > 300 || !in(n, 0, tape.length())) {
            return no(5);
        }
        String text = takeTape(n);
        int[] count = {0};
        try {
            Reader r = new Reader(text);
            now.years = readSteps(r, 0, count);
        } catch (Fault fault) {
            return faulty(fault);
        }
        return yes(count[0]);
    }

    private List<Step> readSteps(Reader r, int depth, int[] count) throws Fault {
        List<Step> steps = new ArrayList<>();
        while (depth > 0 || !r.atEnd()) {
            String word = r.next();
            if (word.equals("end") && depth > 0) {
                return steps;
            }
            if (!List.of("hear", "forget", "told", "sail", "any", "when", "loop", "stop").contains(word)) {
                throw r.fault(2);
            }
            if (++count[0] > 30) {
                throw r.fault(6);
            }
            if (depth == 3 && (word.equals("when") || word.equals("loop"))) {
                throw r.fault(7);
            }
            steps.add(readStep(r, word, depth, count));
            r.sign(";");
        }
        return steps;
    }

    private Step readStep(Reader r, String word, int depth, int[] count) throws Fault {
        switch (word) {
            case "hear":
            case "forget":
                return new Step(word, r.known(now), 0, 0, null);
            case "told":
                int who = r.known(now);
                int cell = r.cell(now);
                return new Step(word, who, cell, r.feeling(), null);
            case "sail":
                return new Step(word, r.cell(now), 0, 0, null);
            case "when":
                Step test = readTest(r);
                r.sign(";");
                return new Step(test.word, test.a, test.b, 0, readSteps(r, depth + 1, count));
            case "loop":
                int rounds = r.number(1, 99);
                r.sign(";");
                return new Step(word, rounds, 0, 0, readSteps(r, depth + 1, count));
            default:
                return new Step(word, 0, 0, 0, null);
        }
    }

    private Step readTest(Reader r) throws Fault {
        switch (r.next()) {
            case "heard":
                return new Step("heard", r.known(now), 0, 0, null);
            case "white":
                return new Step("white", r.cell(now), 0, 0, null);
            case "drawn":
                int cell = r.cell(now);
                return new Step("drawn", cell, r.feeling(), 0, null);
            case "known":
                if (!r.next().matches("[<>=]")) {
                    throw r.fault(2);
                }
                int compares = "<=>".indexOf(r.token) - 1;
                return new Step("known", compares, r.number(0, 36), 0, null);
            default:
                throw r.fault(2);
        }
    }

    int fault(int what) {
        return what == 0 ? faultKind : what == 1 ? faultPlace : NONE;
    }

    int many(int what) {
        if (!in(what, 0, 8)) {
            return no(5);
        }
        if (what == 5 && now.cells() == 0) {
            return no(8);
        }
        int set = 0;
        for (int i = 0; i < now.heard.size(); i++) {
            set += now.heard.get(i) ? 1 << i : 0;
        }
        return yes(new int[] {now.rows.size(), now.columns(), now.lies.size(), now.tellings.size(), now.odds, now.harbour, set,
            now.white(), now.right()}[what]);
    }

    int cell(int cell, int what) {
        if (!isCell(cell)) {
            return no(2);
        }
        if (!in(what, 0, 4)) {
            return no(5);
        }
        int size = now.tellings.stream().filter(t -> t.cell == cell && t.kind == 3 && now.heard.get(t.traveller))
                .mapToInt(t -> t.missed).sum();
        return yes(new int[] {now.kind(cell), now.drawn(cell), now.risk(cell), size, now.toldOf(cell)}[what]);
    }

    int votes(int cell, int kind) {
        return !isCell(cell) ? no(2) : !in(kind, 0, 3) ? no(5) : yes(now.votes(cell, kind));
    }

    int traveller(int who, int what) {
        if (!isTraveller(who)) {
            return no(2);
        }
        if (!in(what, 0, 3)) {
            return no(5);
        }
        int told = (int) now.tellings.stream().filter(t -> t.traveller == who).count();
        int wrong = (int) now.tellings.stream().filter(t -> t.traveller == who && t.kind != now.kind(t.cell)).count();
        return yes(new int[] {now.lies.get(who), now.heard.get(who) ? 1 : 0, told, wrong}[what]);
    }

    int telling(int i, int what) {
        if (!in(i, 0, now.tellings.size() - 1)) {
            return no(2);
        }
        if (!in(what, 0, 3)) {
            return no(5);
        }
        Telling t = now.tellings.get(i);
        return yes(new int[] {t.traveller, t.cell, t.kind, t.missed}[what]);
    }

    int copyChart(int tray) {
        if (!in(tray, 0, 3)) {
            return no(1);
        }
        if (!trays.containsKey(tray)) {
            return no(3);
        }
        if (trays.get(tray).length < now.cells()) {
            return no(4);
        }
        for (int c = 0; c < now.cells(); c++) {
            trays.get(tray)[c] = now.drawn(c);
        }
        return yes(now.cells());
    }

    private int heard(int who, boolean is) {
        if (!isTraveller(who)) {
            return no(2);
        }
        if (now.heard.get(who) == is) {
            return no(9);
        }
        now.heard.set(who, is);
        return yes(now.known());
    }

    int hear(int who) {
        return heard(who, true);
    }

    int forget(int who) {
        return heard(who, false);
    }

    int tell(int who, int cell, int kind, int missed) {
        if (!isTraveller(who) || !isCell(cell)) {
            return no(2);
        }
        if (!in(kind, 0, 3) || !in(missed, 0, 9)) {
            return no(5);
        }
        return now.add(who, cell, kind, missed) ? yes(now.tellings.size() - 1) : no(7);
    }

    int come(int lies) {
        if (!in(lies, 0, 16)) {
            return no(5);
        }
        if (now.lies.size() == 5) {
            return no(7);
        }
        now.lies.add(lies);
        now.heard.add(false);
        now.names.add("?");
        return yes(now.lies.size() - 1);
    }

    int change(int cell, int kind) {
        if (!isCell(cell)) {
            return no(2);
        }
        if (!in(kind, 0, 3)) {
            return no(5);
        }
        int old = now.kind(cell);
        now.rows.get(cell / now.columns())[cell % now.columns()] = kind;
        return yes(old);
    }

    int trust(int who, int lies) {
        return !isTraveller(who) ? no(2) : !in(lies, 0, 16) ? no(5) : yes(now.lies.set(who, lies));
    }

    int moor(int cell) {
        if (!isCell(cell)) {
            return no(2);
        }
        int old = now.harbour;
        now.harbour = cell;
        return yes(old);
    }

    boolean rule(int odds) {
        if (!in(odds, 0, 16)) {
            return not(5);
        }
        now.odds = odds;
        return yes();
    }

    private BigInteger[] weights(int cell) {
        BigInteger[] w = new BigInteger[4];
        for (int kind = 0; kind < 4; kind++) {
            w[kind] = BigInteger.ONE;
            for (Telling t : now.tellings) {
                if (t.cell == cell && now.heard.get(t.traveller)) {
                    int lies = now.lies.get(t.traveller);
                    w[kind] = w[kind].multiply(BigInteger.valueOf(t.kind == kind ? 3 * (16 - lies) : lies));
                }
            }
        }
        return w;
    }

    private static BigInteger sum(BigInteger[] w) {
        return w[0].add(w[1]).add(w[2]).add(w[3]);
    }

    boolean oddsThat(int cell, int kind) {
        if (!isCell(cell)) {
            return not(2);
        }
        if (!in(kind, 0, 3)) {
            return not(5);
        }
        BigInteger[] w = weights(cell);
        return sum(w).signum() == 0 ? not(9) : fraction(w[kind], sum(w));
    }

    int likeliest(int cell) {
        if (!isCell(cell)) {
            return no(2);
        }
        List<BigInteger> w = Arrays.asList(weights(cell));
        BigInteger most = Collections.max(w);
        return most.signum() == 0 ? no(9) : yes(w.indexOf(most));
    }

    int ask() {
        int found = NONE;
        BigInteger part = null;
        BigInteger whole = null;
        for (int c = 0; c < now.cells(); c++) {
            BigInteger[] w = weights(c);
            BigInteger most = Collections.max(Arrays.asList(w));
            if (most.signum() > 0 && (found == NONE || most.multiply(whole).compareTo(part.multiply(sum(w))) < 0)) {
                found = c;
                part = most;
                whole = sum(w);
            }
        }
        return found == NONE ? no(8) : yes(found);
    }

    private boolean clash(Telling a, Telling b) {
        return a.cell == b.cell && a.kind != b.kind;
    }

    private int lying() {
        int best = NONE;
        for (int set = 0; set < 1 << now.lies.size(); set++) {
            int liars = set;
            List<Telling> others = now.tellings.stream().filter(t -> (liars & 1 << t.traveller) == 0).toList();
            boolean peace = others.stream().noneMatch(a -> others.stream().anyMatch(b -> clash(a, b)));
            if (peace && (best == NONE || Integer.bitCount(set) < Integer.bitCount(best))) {
                best = set;
            }
        }
        return best;
    }

    int liars() {
        return yes(Integer.bitCount(lying()));
    }

    int liarSet() {
        return yes(lying());
    }

    int clashes() {
        int n = 0;
        for (Telling a : now.tellings) {
            for (Telling b : now.tellings) {
                n += clash(a, b) ? 1 : 0;
            }
        }
        return yes(n / 2);
    }

    /** The ways to all cells, by making them longer and keeping the better ones until none gets better. */
    private List<Integer> path(int target) {
        Map<Integer, List<Integer>> best = new HashMap<>();
        best.put(now.harbour, List.of(now.harbour));
        boolean better = true;
        while (better) {
            better = false;
            for (int from : List.copyOf(best.keySet())) {
                for (int to = 0; to < now.cells(); to++) {
                    int dr = Math.abs(from / now.columns() - to / now.columns());
                    int dc = Math.abs(from % now.columns() - to % now.columns());
                    if (dr + dc != 1 || now.drawn(to) == 1) {
                        continue;
                    }
                    List<Integer> longer = new ArrayList<>(best.get(from));
                    longer.add(to);
                    if (!best.containsKey(to) || compare(longer, best.get(to)) < 0) {
                        best.put(to, longer);
                        better = true;
                    }
                }
            }
        }
        return best.get(target);
    }

    private int risk(List<Integer> path) {
        return path.subList(1, path.size()).stream().mapToInt(now::risk).sum();
    }

    private int compare(List<Integer> a, List<Integer> b) {
        int by = Integer.compare(risk(a), risk(b));
        by = by != 0 ? by : Integer.compare(a.size(), b.size());
        for (int i = 0; i < a.size() && by == 0; i++) {
            by = Integer.compare(a.get(i), b.get(i));
        }
        return by;
    }

    int way(int cell) {
        if (!isCell(cell)) {
            return no(2);
        }
        List<Integer> path = path(cell);
        return path == null ? no(8) : yes(risk(path));
    }

    int wayLong(int cell) {
        if (!isCell(cell)) {
            return no(2);
        }
        List<Integer> path = path(cell);
        return path == null ? no(8) : yes(path.size() - 1);
    }

    int wayAt(int cell, int k) {
        if (!isCell(cell)) {
            return no(2);
        }
        List<Integer> path = path(cell);
        return path == null || !in(k, 0, path.size() - 1) ? no(8) : yes(path.get(k));
    }

    boolean comesIn(int cell) {
        if (!isCell(cell)) {
            return not(2);
        }
        List<Integer> path = path(cell);
        if (path == null) {
            return not(8);
        }
        if (path.size() > 16) {
            return not(9);
        }
        BigInteger a = BigInteger.ONE;
        for (int c : path.subList(1, path.size())) {
            a = a.multiply(BigInteger.valueOf(16 - now.risk(c)));
        }
        return fraction(a, BigInteger.valueOf(16).pow(path.size() - 1));
    }

    int sail(int cell) {
        if (!isCell(cell)) {
            return no(2);
        }
        List<Integer> path = path(cell);
        if (path == null) {
            return no(8);
        }
        return yes(path.stream().skip(1).filter(c -> now.kind(c) == 1).findFirst().orElse(cell));
    }

    private int[] planned(int h) {
        int[] best = null;
        for (int set = 0; set < 1 << now.lies.size(); set++) {
            State then = now.copy();
            int hours = 0;
            boolean fits = true;
            for (int i = 0; i < now.lies.size(); i++) {
                if ((set >> i & 1) == 1) {
                    int who = i;
                    fits &= !now.heard.get(i);
                    hours += (int) now.tellings.stream().filter(t -> t.traveller == who).count();
                    then.heard.set(i, true);
                }
            }
            if (fits && hours <= h && (best == null || then.white() < best[0])) {
                best = new int[] {then.white(), set};
            }
        }
        return best;
    }

    int plan(int h) {
        return in(h, 0, 60) ? yes(planned(h)[0]) : no(5);
    }

    int planSet(int h) {
        return in(h, 0, 60) ? yes(planned(h)[1]) : no(5);
    }

    private static int worth(State s, int who, int turns) {
        State then = who == NONE ? s : s.hearing(who);
        return then.known() - s.known() - bestPlay(then, turns - 1);
    }

    private static int bestPlay(State s, int turns) {
        if (turns == 0) {
            return 0;
        }
        int best = worth(s, NONE, turns);
        for (int i = 0; i < s.lies.size(); i++) {
            best = s.heard.get(i) ? best : Math.max(best, worth(s, i, turns));
        }
        return best;
    }

    int game(int n) {
        return in(n, 0, 4) ? yes(bestPlay(now, n)) : no(5);
    }

    int moveOf(int n) {
        if (!in(n, 1, 4)) {
            return no(5);
        }
        int best = bestPlay(now, n);
        for (int i = 0; i < now.lies.size(); i++) {
            if (!now.heard.get(i) && worth(now, i, n) == best) {
                return yes(i);
            }
        }
        return no(8);
    }

    boolean swear(int n, int k) {
        if (!in(n, 0, 12) || !in(k, 0, 12)) {
            return not(5);
        }
        BigInteger odds = BigInteger.ZERO;
        for (int set = 0; set < 1 << n; set++) {
            int swear = Integer.bitCount(set);
            if (swear >= k) {
                odds = odds.add(BigInteger.valueOf(now.odds).pow(swear).multiply(BigInteger.valueOf(16 - now.odds).pow(n - swear)));
            }
        }
        return fraction(odds, BigInteger.valueOf(16).pow(n));
    }

    boolean share(int who) {
        if (!isTraveller(who)) {
            return not(2);
        }
        if (now.tellings.isEmpty()) {
            return not(8);
        }
        long his = now.tellings.stream().filter(t -> t.traveller == who).count();
        return fraction(BigInteger.valueOf(his), BigInteger.valueOf(now.tellings.size()));
    }

    int live(int by) {
        if (!in(by, 0, 9999)) {
            return no(5);
        }
        if (now.years == null) {
            return no(8);
        }
        pass(by);
        lived = deeds;
        return yes(steps);
    }

    private void pass(int by) {
        seed = by;
        steps = 0;
        deeds = new int[5];
        walk(now.years);
    }

    private int draw(int n) {
        seed = (seed * 2971 + 11003) % 65536;
        return seed / 8 % n;
    }

    /** False if nothing is done any more. */
    private boolean walk(List<Step> list) {
        for (Step step : list) {
            if (steps == 300) {
                deeds[4] = 1;
                return false;
            }
            steps++;
            if (step.word.equals("stop")) {
                return false;
            }
            int rounds = step.inner == null ? 0 : step.word.equals("loop") ? step.a : holds(step) ? 1 : 0;
            for (int i = 0; i < rounds; i++) {
                if (!walk(step.inner)) {
                    return false;
                }
            }
            if (step.inner == null) {
                act(step);
            }
        }
        return true;
    }

    private boolean holds(Step step) {
        switch (step.word) {
            case "heard":
                return now.heard.get(step.a);
            case "white":
                return now.drawn(step.a) == 4;
            case "drawn":
                return now.drawn(step.a) == step.b;
            default:
                return Integer.signum(now.known() - step.b) == step.a;
        }
    }

    private void act(Step step) {
        boolean came = false;
        if (step.word.equals("hear") || step.word.equals("forget")) {
            boolean is = step.word.equals("hear");
            came = now.heard.set(step.a, is) != is;
        } else if (step.word.equals("told")) {
            came = now.add(step.a, step.b, step.c, 0);
            deeds[1] += came ? 1 : 0;
        } else if (step.word.equals("any")) {
            came = any();
            deeds[1] += came ? 1 : 0;
        } else {
            List<Integer> path = path(step.a);
            came = path != null;
            deeds[2] += came ? 1 : 0;
            deeds[3] += came && path.stream().skip(1).anyMatch(c -> now.kind(c) == 1) ? 1 : 0;
        }
        deeds[0] += came ? 0 : 1;
    }

    private boolean any() {
        if (now.lies.isEmpty() || now.cells() == 0) {
            return false;
        }
        int who = draw(now.lies.size());
        int cell = draw(now.cells());
        int kind = now.kind(cell);
        if (draw(16) < now.lies.get(who)) {
            List<Integer> others = new ArrayList<>(List.of(0, 1, 2, 3));
            others.remove(kind);
            kind = others.get(draw(3));
        }
        return now.add(who, cell, kind, 0);
    }

    int lived(int what) {
        return !in(what, 0, 4) ? no(5) : lived == null ? no(8) : yes(lived[what]);
    }

    boolean mean(int from, int many) {
        if (!in(many, 1, 20) || from < 0 || (long) from + many - 1 > 9999) {
            return not(5);
        }
        if (now.years == null) {
            return not(8);
        }
        State kept = now;
        int right = 0;
        for (int i = 0; i < many; i++) {
            now = kept.copy();
            pass(from + i);
            right += now.right();
        }
        now = kept;
        return fraction(BigInteger.valueOf(right), BigInteger.valueOf(many));
    }

    int mark() {
        if (marks.size() == 3) {
            return no(7);
        }
        marks.add(now.copy());
        return yes(marks.size());
    }

    int back() {
        if (marks.isEmpty()) {
            return no(8);
        }
        now = marks.remove(marks.size() - 1);
        return yes(marks.size());
    }
}
