/** Promises 33 to 37. */
final class WaysTest {
    public static void main(String[] args) {
        Check check = new Check("WaysTest");
        straight(check);
        aroundRock(check);
        firstOfSeveral(check);
        lessRiskBeforeFewerCells(check);
        atTheHarbour(check);
        longWays(check);
        check.end();
    }

    private static void straight(Check c) {
        SighChart x = Check.with("row ssr;traveller a heard;told a 0 1 calm;");
        c.answered(x, "way(2)", x.way(2), 6);
        c.answered(x, "wayLong(2)", x.wayLong(2), 2);
        c.answered(x, "wayAt(2, 0)", x.wayAt(2, 0), 0);
        c.answered(x, "wayAt(2, 1)", x.wayAt(2, 1), 1);
        c.answered(x, "wayAt(2, 2)", x.wayAt(2, 2), 2);
        c.refused(x, "wayAt(2, 3)", x.wayAt(2, 3), 8);
        c.refused(x, "wayAt(2, -1)", x.wayAt(2, -1), 8);
        c.fraction(x, "comesIn(2)", x.comesIn(2), 5, 8);
        c.fraction(x, "comesIn(1)", x.comesIn(1), 1, 1);
        c.answered(x, "sail(2), a rock in the sea", x.sail(2), 2);
        c.answered(x, "sail(1)", x.sail(1), 1);
        x.change(1, 1);
        c.answered(x, "sail(2), wrecked ahead", x.sail(2), 1);
        x.change(0, 1);
        c.answered(x, "sail(0), the harbour is not come into", x.sail(0), 0);
        for (int bad = -1; bad <= 3; bad += 4) {
            c.refused(x, "way", x.way(bad), 2);
            c.refused(x, "wayLong", x.wayLong(bad), 2);
            c.refused(x, "wayAt", x.wayAt(bad, 9), 2);
            c.denied(x, "comesIn", x.comesIn(bad), 2);
            c.refused(x, "sail", x.sail(bad), 2);
        }
    }

    private static void aroundRock(Check c) {
        SighChart x = Check.with("row sss;row sss;traveller a heard;traveller b;told a 0 1 fear;told b 1 1 fear;");
        c.answered(x, "way(2)", x.way(2), 24);
        c.answered(x, "wayLong(2)", x.wayLong(2), 4);
        c.refused(x, "way(1)", x.way(1), 8);
        c.refused(x, "wayLong(1)", x.wayLong(1), 8);
        c.refused(x, "wayAt(1, 0)", x.wayAt(1, 0), 8);
        c.denied(x, "comesIn(1)", x.comesIn(1), 8);
        c.refused(x, "sail(1)", x.sail(1), 8);
        x.hear(1);
        c.refused(x, "way(2), a wall", x.way(2), 8);
        c.answered(x, "way(3)", x.way(3), 6);
    }

    private static void firstOfSeveral(Check c) {
        SighChart x = Check.with("row sss;row sss;row sss;");
        long[] way = {0, 1, 2, 5, 8};
        for (int k = 0; k < way.length; k++) {
            c.answered(x, "wayAt(8, " + k + ")", x.wayAt(8, k), way[k]);
        }
        x.moor(8);
        long[] home = {8, 5, 2, 1, 0};
        for (int k = 0; k < home.length; k++) {
            c.answered(x, "wayAt(0, " + k + ")", x.wayAt(0, k), home[k]);
        }
        x.moor(6);
        long[] across = {6, 3, 0, 1, 2};
        for (int k = 0; k < across.length; k++) {
            c.answered(x, "wayAt(2, " + k + ")", x.wayAt(2, k), across[k]);
        }
    }

    private static void lessRiskBeforeFewerCells(Check c) {
        SighChart x = Check.with("row ssss;row ssss;traveller a heard;told a 1 0 calm;told a 1 1 tears;told a 1 2 sigh;told a 1 3 calm;told a 0 3 calm;");
        c.answered(x, "way(3)", x.way(3), 0);
        c.answered(x, "wayLong(3)", x.wayLong(3), 5);
        c.answered(x, "wayAt(3, 1)", x.wayAt(3, 1), 4);
        c.answered(x, "way(2)", x.way(2), 6);
        c.answered(x, "wayLong(2)", x.wayLong(2), 4);
        SighChart y = Check.with("row sss;row sss;traveller a heard;traveller b heard;traveller d heard;"
                + "told a 0 1 calm;told b 0 1 calm;told d 0 1 fear;");
        // a third of the votes for rock: 16/3, rounded down
        c.answered(y, "way(2)", y.way(2), 11);
        c.fraction(y, "comesIn(2)", y.comesIn(2), 55, 128);
    }

    private static void atTheHarbour(Check c) {
        SighChart x = Check.with("row ss;harbour 0 1;traveller a heard;told a 0 1 fear;");
        c.answered(x, "way(1), a rock", x.way(1), 0);
        c.answered(x, "wayLong(1)", x.wayLong(1), 0);
        c.answered(x, "wayAt(1, 0)", x.wayAt(1, 0), 1);
        c.refused(x, "wayAt(1, 1)", x.wayAt(1, 1), 8);
        c.fraction(x, "comesIn(1)", x.comesIn(1), 1, 1);
        c.answered(x, "sail(1)", x.sail(1), 1);
        c.answered(x, "way(0)", x.way(0), 6);
    }

    private static void longWays(Check c) {
        SighChart x = Check.with("row ssssss;row ssssss;row ssssss;row ssssss;traveller a heard;"
                + "told a 1 0 fear;told a 1 1 fear;told a 1 2 fear;told a 1 3 fear;told a 1 4 fear;"
                + "told a 3 1 fear;told a 3 2 fear;");
        c.answered(x, "wayLong(18)", x.wayLong(18), 13);
        c.fraction(x, "comesIn(18)", x.comesIn(18), 1220703125L, 549755813888L);
        SighChart y = Check.with("row ssssss;row ssssss;row ssssss;row ssssss;row ssssss;traveller a heard;"
                + "told a 1 0 fear;told a 1 1 fear;told a 1 2 fear;told a 1 3 fear;told a 1 4 fear;"
                + "told a 3 5 fear;told a 3 1 fear;told a 3 2 fear;told a 3 3 fear;told a 3 4 fear;");
        c.answered(y, "wayLong(26)", y.wayLong(26), 16);
        c.denied(y, "comesIn(26)", y.comesIn(26), 9);
        c.answered(y, "wayLong(25)", y.wayLong(25), 15);
        c.fraction(y, "comesIn(25)", y.comesIn(25), 30517578125L, 35184372088832L);
        c.answered(y, "way(29)", y.way(29), 114);
    }
}
