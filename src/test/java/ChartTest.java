/** Promises 13 to 26: what is on the chart, and what is done to it. */
final class ChartTest {
    private static final String DUCHY = "row ssr;row bis;odds 5;harbour 1 0;"
            + "traveller ann lies 1 heard;traveller bob lies 2;traveller cyd heard;"
            + "told ann 0 0 calm;told cyd 0 0 calm;told cyd 0 0 fear;"
            + "told bob 0 2 fear;told ann 0 2 fear missed 2;"
            + "told ann 1 1 sigh missed 4;told cyd 1 1 sigh missed 5;told bob 1 1 sigh missed 9;told cyd 1 1 calm missed 3;"
            + "told bob 1 2 tears;";

    public static void main(String[] args) {
        Check check = new Check("ChartTest");
        whatIsDrawn(check);
        wrongNumbers(check);
        copying(check);
        hearing(check);
        telling(check);
        changing(check);
        check.end();
    }

    private static void whatIsDrawn(Check c) {
        SighChart x = Check.with(DUCHY);
        long[] drawn = {0, 4, 1, 4, 3, 4};
        // 0: one of three votes for rock, 16/3; 4: none of three.
        long[] risk = {5, 6, 16, 6, 0, 6};
        long[] size = {0, 0, 0, 0, 9, 0};
        long[] told = {3, 0, 2, 0, 4, 1};
        for (int cell = 0; cell < 6; cell++) {
            c.answered(x, "cell(" + cell + ", 1)", x.cell(cell, 1), drawn[cell]);
            c.answered(x, "cell(" + cell + ", 2)", x.cell(cell, 2), risk[cell]);
            c.answered(x, "cell(" + cell + ", 3)", x.cell(cell, 3), size[cell]);
            c.answered(x, "cell(" + cell + ", 4)", x.cell(cell, 4), told[cell]);
        }
        c.answered(x, "votes(0, 0)", x.votes(0, 0), 2);
        c.answered(x, "votes(0, 1)", x.votes(0, 1), 1);
        c.answered(x, "votes(4, 3)", x.votes(4, 3), 2);
        c.answered(x, "votes(2, 1)", x.votes(2, 1), 1);
        c.answered(x, "votes(5, 2)", x.votes(5, 2), 0);
        c.answered(x, "many(3)", x.many(3), 10);
        c.answered(x, "many(4)", x.many(4), 5);
        c.answered(x, "many(5)", x.many(5), 3);
        c.answered(x, "many(6)", x.many(6), 5);
        c.answered(x, "many(7)", x.many(7), 3);
        c.answered(x, "many(8)", x.many(8), 3);
        long[][] of = {{1, 1, 3, 0}, {2, 0, 3, 1}, {0, 1, 4, 2}};
        for (int who = 0; who < 3; who++) {
            for (int what = 0; what < 4; what++) {
                c.answered(x, "traveller(" + who + ", " + what + ")", x.traveller(who, what), of[who][what]);
            }
        }
        long[] last = {1, 5, 2, 0};
        long[] seventh = {2, 4, 3, 5};
        for (int what = 0; what < 4; what++) {
            c.answered(x, "telling(9, " + what + ")", x.telling(9, what), last[what]);
            c.answered(x, "telling(6, " + what + ")", x.telling(6, what), seventh[what]);
        }
    }

    private static void wrongNumbers(Check c) {
        SighChart x = Check.with(DUCHY);
        c.refused(x, "many(-1)", x.many(-1), 5);
        c.refused(x, "many(9)", x.many(9), 5);
        c.refused(x, "cell(-1, 0)", x.cell(-1, 0), 2);
        c.refused(x, "cell(6, 9)", x.cell(6, 9), 2);
        c.refused(x, "cell(0, -1)", x.cell(0, -1), 5);
        c.refused(x, "cell(0, 5)", x.cell(0, 5), 5);
        c.refused(x, "votes(6, 4)", x.votes(6, 4), 2);
        c.refused(x, "votes(-1, 0)", x.votes(-1, 0), 2);
        c.refused(x, "votes(0, 4)", x.votes(0, 4), 5);
        c.refused(x, "votes(0, -1)", x.votes(0, -1), 5);
        c.refused(x, "traveller(3, 4)", x.traveller(3, 4), 2);
        c.refused(x, "traveller(-1, 0)", x.traveller(-1, 0), 2);
        c.refused(x, "traveller(0, 4)", x.traveller(0, 4), 5);
        c.refused(x, "traveller(0, -1)", x.traveller(0, -1), 5);
        c.refused(x, "telling(10, 4)", x.telling(10, 4), 2);
        c.refused(x, "telling(-1, 0)", x.telling(-1, 0), 2);
        c.refused(x, "telling(0, 4)", x.telling(0, 4), 5);
        c.refused(x, "telling(0, -1)", x.telling(0, -1), 5);
        SighChart y = new SighChart();
        c.refused(y, "many(5) without a sea", y.many(5), 8);
    }

    private static void copying(Check c) {
        SighChart x = Check.with(DUCHY);
        c.refused(x, "copyChart(4)", x.copyChart(4), 1);
        c.refused(x, "copyChart(-1)", x.copyChart(-1), 1);
        c.refused(x, "copyChart(0)", x.copyChart(0), 3);
        x.tray(0, 0, 5);
        x.write(0, 0, 77);
        c.refused(x, "copyChart(0)", x.copyChart(0), 4);
        c.answered(x, "read(0, 0)", x.read(0, 0), 77);
        x.tray(0, 3, 7);
        x.write(0, 6, 77);
        c.answered(x, "copyChart(0)", x.copyChart(0), 6);
        long[] drawn = {0, 4, 1, 4, 3, 4, 77};
        for (int i = 0; i < 7; i++) {
            c.answered(x, "read(0, " + i + ")", x.read(0, i), drawn[i]);
        }
    }

    private static void hearing(Check c) {
        SighChart x = Check.with(DUCHY);
        c.answered(x, "hear(1)", x.hear(1), 4);
        c.answered(x, "many(6)", x.many(6), 7);
        c.refused(x, "hear(1)", x.hear(1), 9);
        c.refused(x, "hear(3)", x.hear(3), 2);
        c.refused(x, "hear(-1)", x.hear(-1), 2);
        c.answered(x, "cell(4, 3)", x.cell(4, 3), 18);
        c.answered(x, "forget(2)", x.forget(2), 4);
        c.refused(x, "forget(2)", x.forget(2), 9);
        c.refused(x, "forget(3)", x.forget(3), 2);
        c.refused(x, "forget(-1)", x.forget(-1), 2);
        c.answered(x, "forget(0)", x.forget(0), 3);
        c.answered(x, "forget(1)", x.forget(1), 0);
        c.answered(x, "many(6)", x.many(6), 0);
        c.answered(x, "many(8)", x.many(8), 0);
    }

    private static void telling(Check c) {
        SighChart x = Check.with(DUCHY);
        c.refused(x, "tell(3, 0, 0, 0)", x.tell(3, 0, 0, 0), 2);
        c.refused(x, "tell(-1, 0, 0, 0)", x.tell(-1, 0, 0, 0), 2);
        c.refused(x, "tell(0, 6, 4, 0)", x.tell(0, 6, 4, 0), 2);
        c.refused(x, "tell(0, -1, 0, 0)", x.tell(0, -1, 0, 0), 2);
        c.refused(x, "tell(0, 0, 4, 0)", x.tell(0, 0, 4, 0), 5);
        c.refused(x, "tell(0, 0, -1, 0)", x.tell(0, 0, -1, 0), 5);
        c.refused(x, "tell(0, 0, 0, 10)", x.tell(0, 0, 0, 10), 5);
        c.refused(x, "tell(0, 0, 0, -1)", x.tell(0, 0, 0, -1), 5);
        c.answered(x, "tell(2, 4, 3, 9)", x.tell(2, 4, 3, 9), 10);
        c.refused(x, "tell(2, 4, 3, 9), a sixth of its cell", x.tell(2, 4, 3, 9), 7);
        c.refused(x, "tell(2, 4, 4, 9)", x.tell(2, 4, 4, 9), 5);
        c.answered(x, "cell(4, 3)", x.cell(4, 3), 18);
        c.answered(x, "tell(0, 1, 2, 0)", x.tell(0, 1, 2, 0), 11);
        c.answered(x, "cell(1, 1)", x.cell(1, 1), 2);
        c.refused(x, "tell(0, 3, 2, 0), a 13th", x.tell(0, 3, 2, 0), 7);
        c.answered(x, "many(3)", x.many(3), 12);
    }

    private static void changing(Check c) {
        SighChart x = Check.with(DUCHY);
        c.refused(x, "come(-1)", x.come(-1), 5);
        c.refused(x, "come(17)", x.come(17), 5);
        c.answered(x, "come(16)", x.come(16), 3);
        c.answered(x, "traveller(3, 0)", x.traveller(3, 0), 16);
        c.answered(x, "traveller(3, 1)", x.traveller(3, 1), 0);
        c.answered(x, "come(0)", x.come(0), 4);
        c.refused(x, "come(0), a sixth", x.come(0), 7);
        c.refused(x, "come(17)", x.come(17), 5);
        c.answered(x, "hear(4)", x.hear(4), 3);
        c.answered(x, "many(6)", x.many(6), 21);
        c.refused(x, "change(6, 0)", x.change(6, 0), 2);
        c.refused(x, "change(-1, 9)", x.change(-1, 9), 2);
        c.refused(x, "change(0, 4)", x.change(0, 4), 5);
        c.refused(x, "change(0, -1)", x.change(0, -1), 5);
        c.answered(x, "change(4, 0)", x.change(4, 0), 3);
        c.answered(x, "change(4, 2)", x.change(4, 2), 0);
        c.answered(x, "cell(4, 0)", x.cell(4, 0), 2);
        c.answered(x, "many(8)", x.many(8), 2);
        c.answered(x, "traveller(0, 3)", x.traveller(0, 3), 1);
        c.refused(x, "trust(5, 0)", x.trust(5, 0), 2);
        c.refused(x, "trust(-1, 99)", x.trust(-1, 99), 2);
        c.refused(x, "trust(0, 17)", x.trust(0, 17), 5);
        c.refused(x, "trust(0, -1)", x.trust(0, -1), 5);
        c.answered(x, "trust(0, 16)", x.trust(0, 16), 1);
        c.answered(x, "trust(0, 0)", x.trust(0, 0), 16);
        c.refused(x, "moor(6)", x.moor(6), 2);
        c.refused(x, "moor(-1)", x.moor(-1), 2);
        c.answered(x, "moor(5)", x.moor(5), 3);
        c.answered(x, "many(5)", x.many(5), 5);
        c.denied(x, "rule(17)", x.rule(17), 5);
        c.denied(x, "rule(-1)", x.rule(-1), 5);
        c.done(x, "rule(16)", x.rule(16));
        c.answered(x, "many(4)", x.many(4), 16);
        c.done(x, "rule(0)", x.rule(0));
        c.answered(x, "many(4)", x.many(4), 0);
    }
}
