import java.nio.charset.StandardCharsets;

/** What the tests have in common: answers that are due, and texts that are fed. */
final class Check {
    /** A call, to be made on one object or on several. */
    interface Call {
        long on(SighChart x);
    }

    private final String about;
    private String sentence = "";
    private int wrong;
    private int asked;

    Check(String about) {
        this.about = about;
    }

    /** The sentence of the document that is asked from here on. */
    void says(String words) {
        sentence = words.isEmpty() ? "" : " (\"" + words + "\")";
    }

    void due(String call, long got, long want) {
        asked++;
        if (got != want) {
            wrong++;
            if (wrong <= 50) {
                System.out.println(about + sentence + ": " + call + " answered " + got + ", due is " + want);
            }
        }
    }

    void due(String call, boolean got, boolean want) {
        due(call, got ? 1 : 0, want ? 1 : 0);
    }

    /** A call that is refused: NONE with this STATUS. */
    void refused(SighChart x, String call, long got, int status) {
        due(call, got, SighChart.NONE);
        due("status() behind " + call, x.status(), status);
    }

    void denied(SighChart x, String call, boolean got, int status) {
        due(call, got, false);
        due("status() behind " + call, x.status(), status);
    }

    /** A call that is answered: with STATUS 0. */
    void answered(SighChart x, String call, long got, long want) {
        due(call, got, want);
        due("status() behind " + call, x.status(), 0);
    }

    void done(SighChart x, String call, boolean got) {
        due(call, got, true);
        due("status() behind " + call, x.status(), 0);
    }

    void fraction(SighChart x, String call, boolean got, long top, long bottom) {
        done(x, call, got);
        due("top() behind " + call, x.top(), top);
        due("bottom() behind " + call, x.bottom(), bottom);
    }

    void fault(SighChart x, String text, long got, int kind, int place) {
        refused(x, text, got, 10);
        due("fault(0) of " + text, x.fault(0), kind);
        due("fault(1) of " + text, x.fault(1), place);
    }

    /** Rows, cells in a row, travellers, tellings, odds, the harbour, the heard, the white cells, the right ones; -1: there is none. */
    void many(SighChart x, long... want) {
        for (int what = 0; what < want.length; what++) {
            due("many(" + what + ")", x.many(what), want[what]);
            due("status() behind many(" + what + ")", x.status(), want[what] < 0 ? 8 : 0);
        }
    }

    void telling(SighChart x, int telling, long... want) {
        for (int what = 0; what < want.length; what++) {
            answered(x, "telling(" + telling + ", " + what + ")", x.telling(telling, what), want[what]);
        }
    }

    void lived(SighChart x, long... want) {
        for (int what = 0; what < want.length; what++) {
            answered(x, "lived(" + what + ")", x.lived(what), want[what]);
        }
    }

    void end() {
        System.out.println(about + ": " + asked + " asked, " + wrong + " wrong");
        if (wrong != 0) {
            System.exit(1);
        }
    }

    /** Feeds a text, with blanks behind it up to a multiple of twenty bytes. */
    static int feed(SighChart x, String text) {
        byte[] bytes = text.getBytes(StandardCharsets.ISO_8859_1);
        int answer = 0;
        for (int i = 0; i < bytes.length; i += 20) {
            int[] five = new int[5];
            for (int k = 0; k < 20; k++) {
                int b = i + k < bytes.length ? bytes[i + k] & 255 : 32;
                five[k / 4] = five[k / 4] << 8 | b;
            }
            answer = x.feed(five[0], five[1], five[2], five[3], five[4]);
        }
        return answer;
    }

    static int duchy(SighChart x, String text) {
        feed(x, text);
        return x.duchy(text.length());
    }

    static int years(SighChart x, String text) {
        feed(x, text);
        return x.years(text.length());
    }

    /** A duchy that must be taken: how many cells it has tells so. */
    SighChart sea(String text, int cells) {
        SighChart x = new SighChart();
        answered(x, text, duchy(x, text), cells);
        return x;
    }

    /** A duchy that is faulty, on a new object. */
    void faultyDuchy(String text, int kind, int place) {
        SighChart x = new SighChart();
        fault(x, text, duchy(x, text), kind, place);
    }

    /** A duchy that is faulty where its rest begins. */
    void faultyDuchy(String ahead, String rest, int kind) {
        faultyDuchy(ahead + rest, kind, ahead.length());
    }

    void faultyYears(String duchy, String text, int kind, int place) {
        SighChart x = with(duchy);
        fault(x, text, years(x, text), kind, place);
    }

    void faultyYears(String duchy, String ahead, String rest, int kind) {
        faultyYears(duchy, ahead + rest, kind, ahead.length());
    }

    /** Years that must be taken, behind a duchy. */
    SighChart years(String duchy, String text, int steps) {
        SighChart x = with(duchy);
        answered(x, text, years(x, text), steps);
        return x;
    }

    static SighChart with(String text) {
        SighChart x = new SighChart();
        duchy(x, text);
        return x;
    }
}
