/** The bounds of promises 33 to 37, a sentence of the document at a time. */
final class WayEdgesTest {
    private static final int MIN = Integer.MIN_VALUE;
    private static final int MAX = Integer.MAX_VALUE;

    public static void main(String[] args) {
        Check c = new Check("WayEdgesTest");
        noSuchCell(c);
        byNone(c);
        sidesInCommon(c);
        rocks(c);
        theHarbourMayBeRock(c);
        theLeastRisk(c);
        thenTheFewestCells(c);
        theFirstByCells(c);
        atTheHarbour(c);
        theKthCell(c);
        atMostFifteen(c);
        comesInByRisk(c);
        wrecked(c);
        theLongest(c);
        c.end();
    }

    private static void refused(Check c, SighChart x, int cell, int status) {
        c.refused(x, "way(" + cell + ")", x.way(cell), status);
        c.refused(x, "wayLong(" + cell + ")", x.wayLong(cell), status);
        c.refused(x, "wayAt(" + cell + ", 0)", x.wayAt(cell, 0), status);
        c.refused(x, "wayAt(" + cell + ", -1)", x.wayAt(cell, -1), status);
        c.denied(x, "comesIn(" + cell + ")", x.comesIn(cell), status);
        c.refused(x, "sail(" + cell + ")", x.sail(cell), status);
    }

    /** The way to the last of these cells goes along them. */
    private static void goes(Check c, SighChart x, int risk, int... cells) {
        int to = cells[cells.length - 1];
        c.answered(x, "way(" + to + ")", x.way(to), risk);
        c.answered(x, "wayLong(" + to + ")", x.wayLong(to), cells.length - 1);
        for (int k = 0; k < cells.length; k++) {
            c.answered(x, "wayAt(" + to + ", " + k + ")", x.wayAt(to, k), cells[k]);
        }
        c.refused(x, "wayAt(" + to + ", " + cells.length + ")", x.wayAt(to, cells.length), 8);
    }

    private static void noSuchCell(Check c) {
        c.says("2 no such CELL");
        SighChart x = Check.with("row sss;row sss;");
        for (int no : new int[] {MIN, -1, 6, 35, 36, MAX}) {
            refused(c, x, no, 2);
        }
        SighChart none = new SighChart();
        for (int no : new int[] {MIN, -1, 0, 1, MAX}) {
            refused(c, none, no, 2);
        }
        goes(c, x, 18, 0, 1, 2, 5);
    }

    private static void byNone(Check c) {
        c.says("8: by none");
        // 0 # 2
        // 3 # 5
        SighChart x = Check.with("row sss;row sss;traveller a heard;traveller b heard;told a 0 1 fear;told b 1 1 fear;");
        for (int cell : new int[] {1, 2, 4, 5}) {
            refused(c, x, cell, 8);
        }
        goes(c, x, 0, 0);
        goes(c, x, 6, 0, 3);
        x.forget(1);
        goes(c, x, 24, 0, 3, 4, 5, 2);
        refused(c, x, 1, 8);
        x.forget(0);
        goes(c, x, 12, 0, 1, 2);
    }

    private static void sidesInCommon(Check c) {
        c.says("from CELL to CELL that have a side in common: not by corners, not from a row's end to the next one's beginning");
        SighChart corner = Check.with("row ss;row ss;traveller a heard;told a 0 1 fear;told a 1 0 fear;");
        refused(c, corner, 3, 8);
        SighChart end = Check.with("row sss;row sss;harbour 0 2;traveller a heard;told a 0 1 fear;told a 1 2 fear;");
        refused(c, end, 3, 8);
        SighChart back = Check.with("row sss;row sss;harbour 1 0;traveller a heard;told a 0 0 fear;told a 1 1 fear;");
        refused(c, back, 2, 8);
        SighChart row = Check.with("row ssssss;");
        goes(c, row, 30, 0, 1, 2, 3, 4, 5);
        SighChart column = Check.with("row s;row s;row s;row s;row s;row s;harbour 5 0;");
        goes(c, column, 30, 5, 4, 3, 2, 1, 0);
        SighChart one = Check.with("row s;");
        goes(c, one, 0, 0);
        SighChart narrow = Check.with("row ss;row ss;row ss;harbour 0 1;");
        goes(c, narrow, 18, 1, 0, 2, 4);
        goes(c, narrow, 12, 1, 3, 5);
    }

    private static void rocks(Check c) {
        c.says("none that is DRAWN as rock: as it is DRAWN, not as it is in the SEA");
        SighChart sea = Check.with("row srs;row rrr;");
        goes(c, sea, 12, 0, 1, 2);
        SighChart x = Check.with("row sss;traveller a heard;traveller b;traveller d heard;told a 0 1 fear;told b 0 1 calm;");
        refused(c, x, 2, 8);
        x.hear(1);
        goes(c, x, 12, 0, 1, 2);
        x.tell(0, 1, 1, 0);
        refused(c, x, 2, 8);
        x.tell(1, 1, 0, 0);
        x.tell(1, 1, 0, 0);
        // three calm, two fear: 32 by 5, rounded down
        goes(c, x, 12, 0, 1, 2);
        c.answered(x, "way(1)", x.way(1), 6);
    }

    private static void theHarbourMayBeRock(Check c) {
        c.says("the HARBOUR may be");
        SighChart x = Check.with("row sss;row sss;harbour 0 1;traveller a heard;told a 0 1 fear;");
        goes(c, x, 0, 1);
        goes(c, x, 6, 1, 0);
        goes(c, x, 6, 1, 4);
        goes(c, x, 12, 1, 0, 3);
        c.fraction(x, "comesIn(1)", x.comesIn(1), 1, 1);
        c.answered(x, "sail(1)", x.sail(1), 1);
        x.moor(0);
        refused(c, x, 1, 8);
        goes(c, x, 24, 0, 3, 4, 5, 2);
    }

    private static void theLeastRisk(Check c) {
        c.says("by the least RISK of all CELLS together that one comes into, then the fewest CELLS");
        SighChart x = Check.with("row sss;row sss;row sss;traveller a heard;told a 1 0 calm;told a 2 0 tears;told a 2 1 sigh;told a 2 2 calm;"
                + "told a 1 2 calm;told a 0 2 calm;");
        goes(c, x, 0, 0, 3, 6, 7, 8, 5, 2);
        c.answered(x, "way(1), one of 6", x.way(1), 6);
        c.answered(x, "wayLong(1)", x.wayLong(1), 1);
        c.says("one comes into the last CELL, not into the HARBOUR");
        x.moor(1);
        goes(c, x, 0, 1, 2);
        goes(c, x, 6, 1, 0);
        c.says("a RISK of 1 less is worth any number of CELLS");
        // The straight way: 3 (one of five is fear) and 0; the long one 0 all along.
        SighChart y = Check.with("row sss;row sss;traveller a heard;told a 0 1 calm;told a 0 1 calm;told a 0 1 calm;told a 0 1 calm;told a 0 1 fear;"
                + "told a 0 2 calm;told a 1 0 calm;told a 1 1 calm;told a 1 2 calm;");
        c.answered(y, "cell(1, 2)", y.cell(1, 2), 3);
        goes(c, y, 0, 0, 3, 4, 5, 2);
        y.tell(0, 4, 1, 0);
        y.tell(0, 4, 0, 0);
        y.tell(0, 4, 0, 0);
        // 16 by 4 against 3
        c.answered(y, "cell(4, 2)", y.cell(4, 2), 4);
        goes(c, y, 3, 0, 1, 2);
    }

    private static void thenTheFewestCells(Check c) {
        c.says("then the fewest CELLS");
        SighChart x = Check.with("row sss;row sss;row sss;harbour 2 0;traveller a heard;told a 0 0 calm;told a 0 1 calm;told a 0 2 calm;"
                + "told a 1 0 calm;told a 1 2 calm;told a 2 0 calm;told a 2 1 calm;told a 2 2 calm;");
        // all but the middle is without risk: around it, not by it
        goes(c, x, 0, 6, 3, 0, 1, 2);
        goes(c, x, 0, 6, 7, 8, 5);
        goes(c, x, 6, 6, 3, 4);
        x.tell(0, 4, 0, 0);
        goes(c, x, 0, 6, 3, 4, 5);
        // Longer ways of no more risk that would come first by their cells.
        SighChart y = Check.with("row ssss;row ssss;harbour 1 0;traveller a heard;told a 0 0 calm;told a 0 1 calm;told a 0 2 calm;told a 0 3 calm;"
                + "told a 1 1 calm;told a 1 2 calm;told a 1 3 calm;");
        goes(c, y, 0, 4, 5, 6, 7);
    }

    private static void theFirstByCells(Check c) {
        c.says("of several the first by CELLS, one by one");
        SighChart x = Check.with("row sss;row sss;row sss;");
        goes(c, x, 24, 0, 1, 2, 5, 8);
        x.moor(2);
        goes(c, x, 24, 2, 1, 0, 3, 6);
        x.moor(6);
        goes(c, x, 24, 6, 3, 0, 1, 2);
        x.moor(8);
        goes(c, x, 24, 8, 5, 2, 1, 0);
        x.moor(4);
        goes(c, x, 12, 4, 1, 0);
        goes(c, x, 12, 4, 1, 2);
        goes(c, x, 12, 4, 3, 6);
        goes(c, x, 12, 4, 5, 8);
        x.moor(0);
        goes(c, x, 12, 0, 1, 4);
        x.moor(1);
        goes(c, x, 18, 1, 0, 3, 6);
        goes(c, x, 18, 1, 2, 5, 8);
        c.says("by CELLS from the HARBOUR on, not from the end on");
        SighChart wide = Check.with("row ssss;row ssss;row ssss;harbour 2 1;");
        goes(c, wide, 24, 9, 5, 1, 2, 3);
        goes(c, wide, 18, 9, 5, 1, 0);
        SighChart rock = Check.with("row ssss;row ssss;row ssss;harbour 2 1;traveller a heard;told a 0 2 fear;");
        goes(c, rock, 24, 9, 5, 6, 7, 3);
    }

    private static void atTheHarbour(Check c) {
        c.says("a WAY to the HARBOUR itself comes into no CELL");
        SighChart x = Check.with("row rs;row ss;harbour 1 1;");
        goes(c, x, 0, 3);
        c.fraction(x, "comesIn(3)", x.comesIn(3), 1, 1);
        c.answered(x, "sail(3)", x.sail(3), 3);
        x.moor(0);
        goes(c, x, 0, 0);
        c.answered(x, "sail(0), a rock in the SEA", x.sail(0), 0);
        c.fraction(x, "comesIn(0)", x.comesIn(0), 1, 1);
    }

    private static void theKthCell(Check c) {
        c.says("WAY: the k-th CELL, from 0 (the HARBOUR) on (2; 8: by none, no such)");
        SighChart x = Check.with("row ssss;harbour 0 3;traveller a heard;");
        goes(c, x, 18, 3, 2, 1, 0);
        for (int no : new int[] {MIN, -1, 4, 5, 36, MAX}) {
            c.refused(x, "wayAt(0, " + no + ")", x.wayAt(0, no), 8);
        }
        c.refused(x, "wayAt(3, 1)", x.wayAt(3, 1), 8);
        c.refused(x, "wayAt(4, 0)", x.wayAt(4, 0), 2);
        c.refused(x, "wayAt(-1, 99): 2 ahead of 8", x.wayAt(-1, 99), 2);
        x.tell(0, 2, 1, 0);
        c.refused(x, "wayAt(1, 0), by none", x.wayAt(1, 0), 8);
        c.refused(x, "wayAt(1, 3), by none", x.wayAt(1, 3), 8);
        c.answered(x, "wayAt(3, 0)", x.wayAt(3, 0), 3);
    }

    private static final String SNAKE = "row ssssss;row ssssss;row ssssss;row ssssss;row ssssss;traveller a heard;"
            + "told a 1 0 fear;told a 1 1 fear;told a 1 2 fear;told a 1 3 fear;told a 1 4 fear;"
            + "told a 3 5 fear;told a 3 4 fear;told a 3 3 fear;told a 3 2 fear;told a 3 1 fear;";

    private static void atMostFifteen(Check c) {
        c.says("9: it comes into more than 15 CELLS");
        SighChart x = Check.with(SNAKE);
        // Five to the right, two down, five to the left, two down: 24 comes 14th, 25 15th, 26 16th.
        c.answered(x, "wayLong(24)", x.wayLong(24), 14);
        c.fraction(x, "comesIn(24)", x.comesIn(24), 6103515625L, 4398046511104L);
        c.answered(x, "wayLong(25)", x.wayLong(25), 15);
        c.fraction(x, "comesIn(25)", x.comesIn(25), 30517578125L, 35184372088832L);
        c.answered(x, "wayLong(26)", x.wayLong(26), 16);
        c.denied(x, "comesIn(26)", x.comesIn(26), 9);
        c.due("top() stays", x.top(), 30517578125L);
        c.due("bottom() stays", x.bottom(), 35184372088832L);
        c.denied(x, "comesIn(29)", x.comesIn(29), 9);
        c.denied(x, "comesIn(30): 2 ahead of 9", x.comesIn(30), 2);
        c.denied(x, "comesIn(19): 8", x.comesIn(19), 8);
        c.answered(x, "sail(26)", x.sail(26), 26);
        c.answered(x, "way(26)", x.way(26), 96);
        c.says("15 CELLS of which one is not WHITE: 16 to the 15th still");
        x.tell(0, 25, 0, 0);
        c.fraction(x, "comesIn(25)", x.comesIn(25), 6103515625L, 4398046511104L);
        x.tell(0, 24, 0, 0);
        c.fraction(x, "comesIn(25)", x.comesIn(25), 1220703125L, 549755813888L);
    }

    private static void comesInByRisk(Check c) {
        c.says("COMES IN: the odds that one does, as each CELL that one comes into wrecks one by RISK sixteenths");
        SighChart x = Check.with("row sssss;traveller a heard;told a 0 1 calm;told a 0 1 calm;told a 0 1 fear;told a 0 2 tears;"
                + "told a 0 3 calm;told a 0 3 calm;told a 0 3 calm;told a 0 3 fear;told a 0 0 sigh;");
        c.fraction(x, "comesIn(0)", x.comesIn(0), 1, 1);
        c.fraction(x, "comesIn(1), 11 by 16", x.comesIn(1), 11, 16);
        c.fraction(x, "comesIn(2), no RISK more", x.comesIn(2), 11, 16);
        c.fraction(x, "comesIn(3), 12 by 16 more", x.comesIn(3), 33, 64);
        c.fraction(x, "comesIn(4), 10 by 16 more", x.comesIn(4), 165, 512);
        x.moor(1);
        c.fraction(x, "comesIn(0): the HARBOUR's RISK is none", x.comesIn(0), 1, 1);
    }

    private static void wrecked(Check c) {
        c.says("SAIL: one is WRECKED at the first CELL one comes into that is rock in the SEA");
        SighChart x = Check.with("row sssss;traveller a heard;");
        c.answered(x, "sail(4)", x.sail(4), 4);
        x.change(4, 1);
        c.answered(x, "sail(4), the last is rock", x.sail(4), 4);
        c.answered(x, "sail(3)", x.sail(3), 3);
        x.change(2, 1);
        c.answered(x, "sail(4)", x.sail(4), 2);
        c.answered(x, "sail(2)", x.sail(2), 2);
        c.answered(x, "sail(1)", x.sail(1), 1);
        x.change(0, 1);
        c.answered(x, "sail(4), the HARBOUR is rock", x.sail(4), 2);
        c.answered(x, "sail(0)", x.sail(0), 0);
        x.change(1, 1);
        c.answered(x, "sail(4)", x.sail(4), 1);
        x.change(1, 2);
        x.change(3, 3);
        c.answered(x, "sail(4), a bay and an island wreck none", x.sail(4), 2);
        c.says("along the WAY: rock in the SEA beside it wrecks none");
        SighChart y = Check.with("row sss;row rrr;");
        c.answered(y, "sail(2)", y.sail(2), 2);
        c.answered(y, "sail(5)", y.sail(5), 5);
        c.answered(y, "sail(4), by 1", y.sail(4), 4);
        c.says("a SAIL changes nothing");
        c.answered(y, "many(5)", y.many(5), 0);
    }

    private static void theLongest(Check c) {
        c.says("36 CELLS: the longest WAYS");
        SighChart x = Check.with("row ssssss;".repeat(6) + "traveller a heard;");
        int[] rocks = {6, 7, 8, 9, 10, 19, 20, 21, 22, 23, 30, 31};
        for (int rock : rocks) {
            x.tell(0, rock, 1, 0);
        }
        c.answered(x, "wayLong(35)", x.wayLong(35), 20);
        c.answered(x, "way(35)", x.way(35), 120);
        c.answered(x, "wayLong(24)", x.wayLong(24), 14);
        c.answered(x, "wayAt(24, 13)", x.wayAt(24, 13), 18);
        c.answered(x, "wayAt(35, 20)", x.wayAt(35, 20), 35);
        c.refused(x, "wayAt(35, 21)", x.wayAt(35, 21), 8);
        SighChart line = Check.with("row ssssss;".repeat(6) + "harbour 5 5;");
        c.answered(line, "wayLong(0)", line.wayLong(0), 10);
        c.answered(line, "way(0)", line.way(0), 60);
        c.fraction(line, "comesIn(0)", line.comesIn(0), 9765625, 1073741824);
    }
}
