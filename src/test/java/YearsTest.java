/** Promises 44 to 48. */
final class YearsTest {
    private static final String SEA = "row ssr;row bis;traveller ann lies 3;traveller bob heard;";

    public static void main(String[] args) {
        Check check = new Check("YearsTest");
        steps(check);
        tests(check);
        loops(check);
        draws(check);
        means(check);
        marks(check);
        check.end();
    }

    private static void steps(Check c) {
        SighChart x = Check.with(SEA);
        c.refused(x, "live(0)", x.live(0), 8);
        c.refused(x, "live(-1)", x.live(-1), 5);
        c.refused(x, "live(10000)", x.live(10000), 5);
        c.refused(x, "lived(0)", x.lived(0), 8);
        c.refused(x, "lived(5)", x.lived(5), 5);
        c.refused(x, "lived(-1)", x.lived(-1), 5);
        Check.years(x, "hear ann;hear ann;hear bob;forget bob;forget bob;told ann 0 1 fear;sail 0 2;sail 0 1;sail 0 0;stop;any;");
        c.answered(x, "live(0)", x.live(0), 10);
        c.lived(x, 4, 1, 2, 1, 0);
        c.answered(x, "many(6)", x.many(6), 1);
        c.answered(x, "many(3)", x.many(3), 1);
        c.answered(x, "telling(0, 3)", x.telling(0, 3), 0);
        Check.years(x, "told bob 0 0 sigh;".repeat(5) + "told bob 0 0 sigh;");
        c.answered(x, "live(9999)", x.live(9999), 6);
        c.lived(x, 1, 5, 0, 0, 0);
        Check.years(x, "loop 9;told bob 1 1 sigh;told bob 1 2 sigh;end;");
        c.answered(x, "live(0)", x.live(0), 19);
        c.lived(x, 12, 6, 0, 0, 0);
        c.answered(x, "many(3)", x.many(3), 12);
        Check.duchy(x, "row s;");
        c.lived(x, 12, 6, 0, 0, 0);
        c.refused(x, "live(0)", x.live(0), 8);
        c.lived(x, 12, 6, 0, 0, 0);
        SighChart rock = Check.with("row rs;");
        Check.years(rock, "sail 0 0;");
        c.answered(rock, "live(0), a harbour in a rock", rock.live(0), 1);
        c.lived(rock, 0, 0, 1, 0, 0);
    }

    /** How many steps are come to if one more stands in a when. */
    private static void when(Check c, String test, boolean holds) {
        SighChart x = Check.with(SEA + "told bob 0 0 calm;told bob 0 1 fear;told bob 1 1 calm;told bob 1 1 fear;");
        Check.years(x, "when " + test + ";hear ann;end;forget bob;");
        c.answered(x, test, x.live(0), holds ? 3 : 2);
        c.answered(x, "many(6) behind " + test, x.many(6), holds ? 1 : 0);
    }

    private static void tests(Check c) {
        when(c, "heard bob", true);
        when(c, "heard ann", false);
        when(c, "white 0 0", false);
        when(c, "white 0 2", true);
        when(c, "white 1 1", true);
        when(c, "drawn 0 0 calm", true);
        when(c, "drawn 0 1 calm", false);
        when(c, "drawn 0 1 fear", true);
        when(c, "drawn 1 1 calm", false);
        when(c, "known = 2", true);
        when(c, "known = 3", false);
        when(c, "known < 3", true);
        when(c, "known < 2", false);
        when(c, "known > 1", true);
        when(c, "known > 2", false);
    }

    private static void loops(Check c) {
        SighChart x = Check.with(SEA);
        Check.years(x, "loop 3;loop 2;when heard bob;forget bob;end;end;hear bob;end;");
        // each round of the outer loop: the inner loop, when, forget, when, hear
        c.answered(x, "live(0)", x.live(0), 16);
        Check.years(x, "loop 99;hear ann;forget ann;end;loop 99;hear ann;end;hear bob;hear bob;");
        c.answered(x, "live(0)", x.live(0), 300);
        c.answered(x, "lived(4)", x.lived(4), 1);
        Check.years(x, "loop 99;hear ann;end;loop 99;hear ann;end;loop 99;end;loop 98;hear ann;end;");
        c.answered(x, "live(0), 300 to the end", x.live(0), 300);
        c.answered(x, "lived(4)", x.lived(4), 0);
        Check.years(x, "loop 99;hear ann;end;loop 99;hear ann;end;loop 99;end;loop 98;hear ann;end;stop;");
        c.answered(x, "live(0), a stop is left", x.live(0), 300);
        c.answered(x, "lived(4)", x.lived(4), 1);
        Check.years(x, "loop 99;hear ann;end;loop 99;hear ann;end;loop 98;hear ann;end;stop;any;");
        c.answered(x, "live(0), a stop is the 300th", x.live(0), 300);
        c.answered(x, "lived(4)", x.lived(4), 0);
        Check.years(x, "loop 5;any;stop;end;any;");
        c.answered(x, "live(0)", x.live(0), 3);
        c.answered(x, "lived(4)", x.lived(4), 0);
    }

    private static int next(int s) {
        return (s * 2971 + 11003) % 65536;
    }

    private static void draws(Check c) {
        SighChart x = Check.with(SEA);
        int[] sea = {0, 0, 1, 2, 3, 0};
        Check.years(x, "any;any;any;any;any;any;");
        int seed = 77;
        c.answered(x, "live(77)", x.live(seed), 6);
        int s = seed;
        for (int i = 0; i < x.lived(1); i++) {
            s = next(s);
            int who = s / 8 % 2;
            s = next(s);
            int cell = s / 8 % 6;
            s = next(s);
            int kind = sea[cell];
            if (s / 8 % 16 < (who == 0 ? 3 : 0)) {
                s = next(s);
                int[][] others = {{1, 2, 3}, {0, 2, 3}, {0, 1, 3}, {0, 1, 2}};
                kind = others[kind][s / 8 % 3];
            }
            c.due("telling(" + i + ", 0)", x.telling(i, 0), who);
            c.due("telling(" + i + ", 1)", x.telling(i, 1), cell);
            c.due("telling(" + i + ", 2)", x.telling(i, 2), kind);
            c.due("telling(" + i + ", 3)", x.telling(i, 3), 0);
        }
        SighChart empty = new SighChart();
        Check.years(empty, "any;any;");
        c.answered(empty, "live(5)", empty.live(5), 2);
        c.answered(empty, "lived(0)", empty.lived(0), 2);
        SighChart seaOnly = Check.with("row s;");
        Check.years(seaOnly, "any;");
        seaOnly.live(1);
        c.answered(seaOnly, "lived(0)", seaOnly.lived(0), 1);
        seaOnly.come(16);
        seaOnly.live(1);
        c.answered(seaOnly, "lived(1), one without a name tells", seaOnly.lived(1), 1);
    }

    private static void means(Check c) {
        SighChart x = Check.with(SEA);
        c.denied(x, "mean(0, 1)", x.mean(0, 1), 8);
        Check.years(x, "told bob 0 0 calm;told bob 1 0 tears;told bob 0 1 fear;forget ann;hear ann;");
        c.denied(x, "mean(-1, 1)", x.mean(-1, 1), 5);
        c.denied(x, "mean(0, 0)", x.mean(0, 0), 5);
        c.denied(x, "mean(0, 21)", x.mean(0, 21), 5);
        c.denied(x, "mean(9999, 2)", x.mean(9999, 2), 5);
        c.denied(x, "mean(10000, 1)", x.mean(10000, 1), 5);
        c.denied(x, "mean(MAX, 20)", x.mean(Integer.MAX_VALUE, 20), 5);
        c.denied(x, "mean(0, MIN)", x.mean(0, Integer.MIN_VALUE), 5);
        c.fraction(x, "mean(9999, 1)", x.mean(9999, 1), 2, 1);
        c.fraction(x, "mean(9980, 20)", x.mean(9980, 20), 2, 1);
        c.answered(x, "many(3), all stays", x.many(3), 0);
        c.answered(x, "many(6), all stays", x.many(6), 2);
        c.refused(x, "lived(0), a mean is not lived", x.lived(0), 8);
        Check.years(x, "any;any;any;");
        long right = 0;
        for (int seed = 40; seed < 47; seed++) {
            SighChart y = Check.with(SEA);
            Check.years(y, "any;any;any;");
            y.live(seed);
            right += y.many(8);
        }
        c.done(x, "mean(40, 7)", x.mean(40, 7));
        c.due("the mean of seven", x.top() * 7, right * x.bottom());
    }

    private static void marks(Check c) {
        SighChart x = Check.with(SEA);
        c.refused(x, "back()", x.back(), 8);
        Check.years(x, "hear ann;");
        c.answered(x, "mark()", x.mark(), 1);
        x.hear(0);
        x.tell(0, 1, 2, 3);
        x.come(9);
        x.change(0, 3);
        x.trust(0, 11);
        x.moor(4);
        x.rule(1);
        c.answered(x, "mark()", x.mark(), 2);
        Check.duchy(x, "row b;odds 2;");
        c.answered(x, "mark()", x.mark(), 3);
        c.refused(x, "mark()", x.mark(), 7);
        Check.duchy(x, "");
        x.tray(0, 0, 3);
        c.answered(x, "back()", x.back(), 2);
        c.answered(x, "read(0, 0), trays stay", x.read(0, 0), 0);
        c.answered(x, "many(0)", x.many(0), 1);
        c.answered(x, "many(4)", x.many(4), 2);
        c.refused(x, "live(0)", x.live(0), 8);
        c.answered(x, "back()", x.back(), 1);
        c.many(x, 2, 3, 3, 1, 1, 4, 3, 5, 0);
        c.answered(x, "cell(0, 0)", x.cell(0, 0), 3);
        c.answered(x, "traveller(0, 0)", x.traveller(0, 0), 11);
        c.answered(x, "telling(0, 3)", x.telling(0, 3), 3);
        c.answered(x, "live(0)", x.live(0), 1);
        c.answered(x, "lived(0), ann is heard already", x.lived(0), 1);
        c.answered(x, "back()", x.back(), 0);
        c.many(x, 2, 3, 2, 0, 4, 0, 2, 6, 0);
        c.answered(x, "cell(0, 0)", x.cell(0, 0), 0);
        c.answered(x, "lived(0), of what was lived latest", x.lived(0), 1);
        c.answered(x, "live(0)", x.live(0), 1);
        c.answered(x, "lived(0)", x.lived(0), 0);
        c.answered(x, "hear by the old names", Check.years(x, "forget ann;forget bob;"), 2);
        c.refused(x, "back()", x.back(), 8);
    }
}
