/** Promises 38 to 41. */
final class CouncilTest {
    public static void main(String[] args) {
        Check check = new Check("CouncilTest");
        plans(check);
        games(check);
        nothingIsBest(check);
        check.end();
    }

    private static void plans(Check c) {
        SighChart x = Check.with("row ssss;traveller a heard;traveller b;traveller d;traveller e;"
                + "told a 0 0 calm;told b 0 1 fear;told d 0 2 fear;told e 0 1 sigh;told e 0 3 sigh;told e 0 2 sigh;");
        long[] white = {3, 2, 1, 0, 0, 0};
        long[] sets = {0, 2, 6, 8, 8, 8};
        for (int h = 0; h < white.length; h++) {
            c.answered(x, "plan(" + h + ")", x.plan(h), white[h]);
            c.answered(x, "planSet(" + h + ")", x.planSet(h), sets[h]);
        }
        c.answered(x, "plan(60)", x.plan(60), 0);
        c.answered(x, "many(6)", x.many(6), 1);
        c.refused(x, "plan(-1)", x.plan(-1), 5);
        c.refused(x, "plan(61)", x.plan(61), 5);
        c.refused(x, "planSet(-1)", x.planSet(-1), 5);
        c.refused(x, "planSet(61)", x.planSet(61), 5);
    }

    private static void games(Check c) {
        SighChart x = Check.with("row ssss;traveller a;traveller b;told a 0 0 calm;told b 0 1 fear;told b 0 2 fear;");
        c.answered(x, "game(0)", x.game(0), 0);
        c.answered(x, "game(1)", x.game(1), 2);
        c.answered(x, "moveOf(1)", x.moveOf(1), 1);
        c.answered(x, "game(2)", x.game(2), 1);
        c.answered(x, "moveOf(2)", x.moveOf(2), 1);
        c.answered(x, "game(4)", x.game(4), 1);
        c.refused(x, "game(-1)", x.game(-1), 5);
        c.refused(x, "game(5)", x.game(5), 5);
        c.refused(x, "moveOf(0)", x.moveOf(0), 5);
        c.refused(x, "moveOf(5)", x.moveOf(5), 5);
        c.answered(x, "many(6)", x.many(6), 0);
        x.hear(0);
        x.hear(1);
        c.answered(x, "game(3), all are heard", x.game(3), 0);
        c.refused(x, "moveOf(3)", x.moveOf(3), 8);
    }

    /** Who hears a first traveller here only opens a better move to the other. */
    private static void nothingIsBest(Check c) {
        SighChart x = Check.with("row ss;traveller a heard;traveller b;told a 0 0 calm;told b 0 0 fear;");
        c.answered(x, "game(1)", x.game(1), 0);
        c.refused(x, "moveOf(1), a loss", x.moveOf(1), 8);
        SighChart y = Check.with("row ss;traveller a;traveller b;");
        c.answered(y, "moveOf(1), no loss: nothing comes last", y.moveOf(1), 0);
        SighChart z = Check.with("row s;traveller a heard;traveller b;traveller d;told a 0 0 calm;told b 0 0 fear;told d 0 0 calm;told d 0 0 calm;");
        // b makes it white, d makes it calm again: by two turns nothing is as good as d, by one too
        c.answered(z, "game(2)", z.game(2), 0);
        c.answered(z, "moveOf(2)", z.moveOf(2), 2);
        SighChart v = Check.with("row s;traveller a heard;traveller b;told a 0 0 calm;told b 0 0 fear;");
        v.forget(0);
        // to hear b first gives 1, then a makes it white: -1 for the other, who rather does nothing
        c.answered(v, "game(2)", v.game(2), 1);
        c.answered(v, "moveOf(2)", v.moveOf(2), 0);
        SighChart w = Check.with("row s;traveller a;traveller b;traveller d;told a 0 0 calm;told b 0 0 fear;told d 0 0 calm;");
        c.answered(w, "game(3)", w.game(3), 1);
        SighChart below = Check.with("row s;traveller a heard;traveller b heard;traveller d;told a 0 0 calm;told b 0 0 fear;told d 0 0 sigh;");
        c.answered(below, "game(1)", below.game(1), 0);
        c.answered(below, "moveOf(1)", below.moveOf(1), 2);
    }
}
