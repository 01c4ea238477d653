import java.nio.charset.StandardCharsets;

/** What the tests have in common: answers that are due, and texts that are fed. */
final class Check {
    private final String about;
    private int wrong;
    private int asked;

    Check(String about) {
        this.about = about;
    }

    void due(String call, long got, long want) {
        asked++;
        if (got != want) {
            wrong++;
            if (wrong <= 50) {
                System.out.println(about + ": " + call + " answered " + got + ", due is " + want);
            }
        }
    }

    void due(String call, boolean got, boolean want) {
        due(call, got ? 1 : 0, want ? 1 : 0);
    }

    /** A call that is refused: NONE with this STATUS. */
    void refused(SighChart x, String call, long got, int status) {
        due(call, got, SighChart.NONE);
        due("status() behind " + call, x.status(), status);
    }

    void denied(SighChart x, String call, boolean got, int status) {
        due(call, got, false);
        due("status() behind " + call, x.status(), status);
    }

    /** A call that is answered: with STATUS 0. */
    void answered(SighChart x, String call, long got, long want) {
        due(call, got, want);
        due("status() behind " + call, x.status(), 0);
    }

    void done(SighChart x, String call, boolean got) {
        due(call, got, true);
        due("status() behind " + call, x.status(), 0);
    }

    void fraction(SighChart x, String call, boolean got, long top, long bottom) {
        done(x, call, got);
        due("top() behind " + call, x.top(), top);
        due("bottom() behind " + call, x.bottom(), bottom);
    }

    void fault(SighChart x, String text, long got, int kind, int place) {
        refused(x, text, got, 10);
        due("fault(0) of " + text, x.fault(0), kind);
        due("fault(1) of " + text, x.fault(1), place);
    }

    void end() {
        System.out.println(about + ": " + asked + " asked, " + wrong + " wrong");
        if (wrong != 0) {
            System.exit(1);
        }
    }

    /** Feeds a text, with blanks behind it up to a multiple of twenty bytes. */
    static int feed(SighChart x, String text) {
        byte[] bytes = text.getBytes(StandardCharsets.ISO_8859_1);
        int answer = 0;
        for (int i = 0; i < bytes.length; i += 20) {
            int[] five = new int[5];
            for (int k = 0; k < 20; k++) {
                int b = i + k < bytes.length ? bytes[i + k] & 255 : 32;
                five[k / 4] = five[k / 4] << 8 | b;
            }
            answer = x.feed(five[0], five[1], five[2], five[3], five[4]);
        }
        return answer;
    }

    static int duchy(SighChart x, String text) {
        feed(x, text);
        return x.duchy(text.length());
    }

    static int years(SighChart x, String text) {
        feed(x, text);
        return x.years(text.length());
    }

    static SighChart with(String text) {
        SighChart x = new SighChart();
        duchy(x, text);
        return x;
    }
}
