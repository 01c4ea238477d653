import java.util.ArrayList;
import java.util.List;

/** Random calls, the same on a SighChart and on the Model, with every answer and STATUS compared. */
final class ModelTest {
    private static final int CALLS = 45;
    private static final String[] NAMES = {"ann", "bob", "cyd", "dee", "abcdefgh", "x"};
    private static final String[] FEELINGS = {"calm", "fear", "tears", "sigh"};
    private static final String[] ODD_TOKENS = {"row", "odds", "harbour", "traveller", "lies", "heard", "told", "missed", "calm",
        "tears", "hear", "forget", "sail", "any", "when", "drawn", "white", "known", "loop", "end", "stop", ";", "<", ">", "=",
        "0", "1", "7", "16", "17", "99", "12345", "ann", "zed", "abcdefghi", "srbi", "?", "Ann", "\u00fc", "\n", "\t", ""};

    private long state;
    private final List<String> log = new ArrayList<>();
    private int rowsNow = 1;
    private int columnsNow = 1;

    private ModelTest(long seed) {
        state = seed * 7919 + 12345;
    }

    public static void main(String[] args) {
        int runs = args.length > 0 ? Integer.parseInt(args[0]) : 800;
        int first = args.length > 1 ? Integer.parseInt(args[1]) : 0;
        int[] statuses = new int[12];
        int[] faults = new int[8];
        for (int run = first; run < first + runs; run++) {
            new ModelTest(run).play(run, statuses, faults);
        }
        for (int i = 0; i < 12; i++) {
            if (statuses[i] == 0) {
                System.out.println("ModelTest: no call had STATUS " + i);
                System.exit(1);
            }
        }
        for (int i = 1; i < 8; i++) {
            if (faults[i] == 0) {
                System.out.println("ModelTest: no text had FAULT " + i);
                System.exit(1);
            }
        }
        System.out.println("ModelTest: " + runs + " runs, all as the model");
    }

    private int rnd(int n) {
        state = state * 6364136223846793005L + 1442695040888963407L;
        return (int) ((state >>> 33) % n);
    }

    private boolean chance(int percent) {
        return rnd(100) < percent;
    }

    /** Mostly within 0 to high - 1, now and then beside it. */
    private int about(int high) {
        int r = rnd(100);
        if (r < 3) {
            return -1;
        }
        if (r < 6) {
            return high;
        }
        if (r == 6) {
            return Integer.MAX_VALUE - rnd(3);
        }
        return r == 7 ? Integer.MIN_VALUE + rnd(3) : rnd(Math.max(1, high));
    }

    private void play(int run, int[] statuses, int[] faults) {
        SighChart x = new SighChart();
        Model y = new Model();
        feedText(x, y, duchyText(), true, faults);
        int calls = 40 + rnd(300);
        for (int i = 0; i < calls; i++) {
            int which = rnd(CALLS + 12);
            if (which >= CALLS) {
                boolean isDuchy = which == CALLS && chance(60);
                feedText(x, y, isDuchy ? duchyText() : yearsText(), isDuchy, faults);
            } else {
                call(x, y, which);
            }
            statuses[x.status()]++;
            same(run, "status", x.status(), y.status());
            same(run, "top", x.top(), y.top());
            same(run, "bottom", x.bottom(), y.bottom());
            for (int what = -1; what < 3; what++) {
                same(run, "fault " + what, x.fault(what), y.fault(what));
            }
            same(run, log.get(log.size() - 1), got, want);
        }
    }

    private long got;
    private long want;

    private void same(int run, String what, long a, long b) {
        if (a != b) {
            for (String line : log.subList(Math.max(0, log.size() - 30), log.size())) {
                System.out.println("  " + line);
            }
            System.out.println("ModelTest run " + run + ": " + what + " is " + a + ", by the model " + b);
            System.exit(1);
        }
    }

    private void answers(long a, long b, String call, int... args) {
        got = a;
        want = b;
        StringBuilder line = new StringBuilder(call);
        for (int arg : args) {
            line.append(' ').append(arg);
        }
        log.add(line.toString());
    }

    private void answers(boolean a, boolean b, String call, int... args) {
        answers(a ? 1 : 0, b ? 1 : 0, call, args);
    }

    private void feedText(SighChart x, Model y, String text, boolean isDuchy, int[] faults) {
        int fed = 0;
        for (int at = 0; at < text.length() || at == 0; at += 20) {
            int[] five = new int[5];
            for (int k = 0; k < 20; k++) {
                int b = at + k < text.length() ? text.charAt(at + k) & 255 : " \nx;"
                    .charAt(rnd(4));
                five[k / 4] = five[k / 4] << 8 | b;
            }
            fed = x.feed(five[0], five[1], five[2], five[3], five[4]);
            same(-1, "feed", fed, y.feed(five[0], five[1], five[2], five[3], five[4]));
        }
        int n = chance(95) ? text.length() : about(text.length() + 30);
        log.add(text);
        if (isDuchy) {
            answers(x.duchy(n), y.duchy(n), "duchy", n);
        } else {
            answers(x.years(n), y.years(n), "years", n);
        }
        faults[Math.max(0, x.fault(0))]++;
    }

    private String name() {
        return NAMES[chance(96) ? rnd(3) : rnd(NAMES.length)];
    }

    private String cell() {
        return (chance(98) ? rnd(rowsNow) : rnd(7)) + " " + (chance(98) ? rnd(columnsNow) : rnd(7));
    }

    private String feeling() {
        return FEELINGS[rnd(4)];
    }

    private String duchyText() {
        StringBuilder s = new StringBuilder();
        rowsNow = chance(4) ? 6 : 1 + rnd(4);
        columnsNow = chance(4) ? 6 : 1 + rnd(4);
        for (int i = 0; i < rowsNow + (chance(2) ? 1 : 0); i++) {
            s.append("row ");
            for (int k = 0; k < columnsNow; k++) {
                s.append("ssssrbi".charAt(rnd(7)));
            }
            s.append(chance(97) ? ";" : "s;");
        }
        if (chance(60)) {
            s.append("odds ").append(rnd(17)).append("; ");
        }
        int travellers = chance(5) ? 6 : 1 + rnd(5);
        for (int i = 0; i < travellers; i++) {
            s.append("traveller ").append(NAMES[chance(97) ? Math.min(i, 5) : rnd(6)]);
            s.append(chance(50) ? " lies " + rnd(17) : "").append(chance(50) ? " heard" : "").append(";\n");
        }
        if (chance(60)) {
            s.append("harbour ").append(cell()).append(';');
        }
        int tellings = chance(5) ? 13 : rnd(13);
        for (int i = 0; i < tellings; i++) {
            s.append("told ").append(name()).append(' ').append(cell()).append(' ').append(feeling());
            s.append(chance(40) ? " missed " + rnd(10) : "").append(';');
        }
        return mutated(s);
    }

    private String yearsText() {
        StringBuilder s = new StringBuilder();
        addSteps(s, 0, 1 + rnd(chance(3) ? 32 : 9));
        return mutated(s);
    }

    private void addSteps(StringBuilder s, int depth, int many) {
        for (int i = 0; i < many; i++) {
            switch (rnd(depth > (chance(95) ? 2 : 3) ? 8 : 13)) {
                case 0:
                    s.append("hear ").append(name()).append(';');
                    break;
                case 1:
                    s.append("forget ").append(name()).append("; ");
                    break;
                case 2:
                    s.append("told ").append(name()).append(' ').append(cell()).append(' ').append(feeling()).append(';');
                    break;
                case 3:
                case 4:
                    s.append("sail ").append(cell()).append(';');
                    break;
                case 5:
                case 6:
                    s.append("any;");
                    break;
                case 7:
                    s.append(chance(15) ? "stop;" : "any;");
                    break;
                case 8:
                case 9:
                    s.append("loop ").append(chance(30) ? 1 + rnd(99) : 1 + rnd(5)).append(';');
                    addSteps(s, depth + 1, rnd(3));
                    s.append("end;\n");
                    break;
                default:
                    s.append("when ").append(test()).append(';');
                    addSteps(s, depth + 1, rnd(3));
                    s.append("end ;");
                    break;
            }
        }
    }

    private String test() {
        switch (rnd(4)) {
            case 0:
                return "heard " + name();
            case 1:
                return "white " + cell();
            case 2:
                return "drawn " + cell() + " " + feeling();
            default:
                return "known" + "<>=".charAt(rnd(3)) + rnd(chance(90) ? 8 : 40);
        }
    }

    /** Now and then a token is put in, taken out, or the text is cut. */
    private String mutated(StringBuilder s) {
        for (int i = 0; i < 2 && chance(20) && s.length() > 2; i++) {
            int at = rnd(s.length());
            switch (rnd(4)) {
                case 0:
                    s.insert(at, " " + ODD_TOKENS[rnd(ODD_TOKENS.length)] + " ");
                    break;
                case 1:
                    s.deleteCharAt(at);
                    break;
                case 2:
                    s.insert(at, ODD_TOKENS[rnd(ODD_TOKENS.length)]);
                    break;
                default:
                    s.setLength(at);
                    break;
            }
        }
        return s.toString();
    }

    private int cellNumber() {
        return about(rowsNow * columnsNow);
    }

    private void call(SighChart x, Model y, int which) {
        int a = about(4);
        int b = about(5);
        int cell = cellNumber();
        int who = about(5);
        int k = about(5);
        switch (which) {
            case 0: {
                int many = about(61);
                answers(x.tray(a, k, many), y.tray(a, k, many), "tray", a, k, many);
                break;
            }
            case 1: {
                long v = state;
                int place = about(30);
                answers(x.write(a, place, v), y.write(a, place, v), "write", a, place);
                break;
            }
            case 2: {
                int place = about(30);
                answers(x.read(a, place), y.read(a, place), "read", a, place);
                break;
            }
            case 3: {
                int to = about(4);
                int i = about(20);
                int j = about(20);
                int many = about(20);
                answers(x.pour(a, i, to, j, many), y.pour(a, i, to, j, many), "pour", a, i, to, j, many);
                break;
            }
            case 4:
                k = about(9);
                answers(x.many(k), y.many(k), "many", k);
                break;
            case 5:
            case 6:
                answers(x.cell(cell, b), y.cell(cell, b), "cell", cell, b);
                break;
            case 7:
                answers(x.votes(cell, a), y.votes(cell, a), "votes", cell, a);
                break;
            case 8:
                answers(x.traveller(who, a), y.traveller(who, a), "traveller", who, a);
                break;
            case 9:
                k = about(12);
                answers(x.telling(k, a), y.telling(k, a), "telling", k, a);
                break;
            case 10:
                answers(x.copyChart(a), y.copyChart(a), "copyChart", a);
                break;
            case 11:
            case 12:
                answers(x.hear(who), y.hear(who), "hear", who);
                break;
            case 13:
            case 14:
                answers(x.forget(who), y.forget(who), "forget", who);
                break;
            case 15:
            case 16: {
                int missed = about(10);
                answers(x.tell(who, cell, a, missed), y.tell(who, cell, a, missed), "tell", who, cell, a, missed);
                break;
            }
            case 17:
                k = about(17);
                answers(x.come(k), y.come(k), "come", k);
                break;
            case 18:
                answers(x.change(cell, a), y.change(cell, a), "change", cell, a);
                break;
            case 19:
                k = about(17);
                answers(x.trust(who, k), y.trust(who, k), "trust", who, k);
                break;
            case 20:
                answers(x.moor(cell), y.moor(cell), "moor", cell);
                break;
            case 21:
                k = about(17);
                answers(x.rule(k), y.rule(k), "rule", k);
                break;
            default:
                ask(x, y, which, cell);
                break;
        }
    }

    private void ask(SighChart x, Model y, int which, int cell) {
        int k = about(5);
        switch (which) {
            case 22:
                answers(x.oddsThat(cell, k), y.oddsThat(cell, k), "oddsThat", cell, k);
                break;
            case 23:
                answers(x.likeliest(cell), y.likeliest(cell), "likeliest", cell);
                break;
            case 24:
                answers(x.ask(), y.ask(), "ask");
                break;
            case 25:
                answers(x.liars(), y.liars(), "liars");
                break;
            case 26:
                answers(x.liarSet(), y.liarSet(), "liarSet");
                break;
            case 27:
                answers(x.clashes(), y.clashes(), "clashes");
                break;
            case 28:
                answers(x.way(cell), y.way(cell), "way", cell);
                break;
            case 29:
                answers(x.wayLong(cell), y.wayLong(cell), "wayLong", cell);
                break;
            case 30:
            case 31:
                answers(x.wayAt(cell, k), y.wayAt(cell, k), "wayAt", cell, k);
                break;
            case 32:
                answers(x.comesIn(cell), y.comesIn(cell), "comesIn", cell);
                break;
            case 33:
                answers(x.sail(cell), y.sail(cell), "sail", cell);
                break;
            case 34:
                k = chance(80) ? rnd(8) : about(61);
                answers(x.plan(k), y.plan(k), "plan", k);
                break;
            case 35:
                k = chance(80) ? rnd(8) : about(61);
                answers(x.planSet(k), y.planSet(k), "planSet", k);
                break;
            case 36:
                k = rnd(4) == 0 ? k : Math.min(k, 3);
                answers(x.game(k), y.game(k), "game", k);
                break;
            case 37:
                k = rnd(4) == 0 ? k : Math.min(k, 3);
                answers(x.moveOf(k), y.moveOf(k), "moveOf", k);
                break;
            case 38: {
                int n = about(13);
                k = about(13);
                answers(x.swear(n, k), y.swear(n, k), "swear", n, k);
                break;
            }
            case 39:
                answers(x.share(k), y.share(k), "share", k);
                break;
            case 40:
                k = about(10000);
                answers(x.live(k), y.live(k), "live", k);
                break;
            case 41:
                answers(x.lived(k), y.lived(k), "lived", k);
                break;
            case 42: {
                int seed = about(10000);
                k = about(21);
                answers(x.mean(seed, k), y.mean(seed, k), "mean", seed, k);
                break;
            }
            case 43:
                answers(x.mark(), y.mark(), "mark");
                break;
            default:
                answers(x.back(), y.back(), "back");
                break;
        }
    }
}
