/** The bounds of promises 1 to 8, a sentence of the document at a time. */
final class TrayEdgesTest {
    private static final int MIN = Integer.MIN_VALUE;
    private static final int MAX = Integer.MAX_VALUE;

    public static void main(String[] args) {
        Check c = new Check("TrayEdgesTest");
        newObject(c);
        statusOfTheLatest(c);
        traysAreFour(c);
        sortsAreFour(c);
        atMostSixty(c);
        noneAtAll(c);
        allZero(c);
        cutToTheirBits(c);
        noneFromMinusOne(c);
        placesOfATray(c);
        pouredAsTheyWere(c);
        pouredWithinBounds(c);
        pourAskedInThisOrder(c);
        c.end();
    }

    private static void newObject(Check c) {
        c.says("TRAYS are MISSING, a DUCHY without a SEA (ODDS 4), no YEARS, MARKS, an empty tape; STATUS 0, the FRACTION 0 by 1");
        SighChart x = new SighChart();
        c.due("status()", x.status(), 0);
        c.due("top()", x.top(), 0);
        c.due("bottom()", x.bottom(), 1);
        c.due("fault(0)", x.fault(0), -1);
        c.due("fault(1)", x.fault(1), -1);
        c.due("status() behind calls that have none", x.status(), 0);
        for (int tray = 0; tray < 4; tray++) {
            c.refused(x, "read(" + tray + ", 0)", x.read(tray, 0), 3);
        }
        for (int what = 0; what < 9; what++) {
            if (what == 5) {
                c.refused(x, "many(5)", x.many(5), 8);
            } else {
                c.answered(x, "many(" + what + ")", x.many(what), what == 4 ? 4 : 0);
            }
        }
        c.refused(x, "live(0)", x.live(0), 8);
        c.refused(x, "lived(0)", x.lived(0), 8);
        c.refused(x, "back()", x.back(), 8);
        c.refused(x, "duchy(1)", x.duchy(1), 5);
        c.refused(x, "years(1)", x.years(1), 5);
        c.due("feed", x.feed(0, 0, 0, 0, 0), 20);
    }

    private static void statusOfTheLatest(Check c) {
        c.says("The STATUS of the latest call that has one; status(), fault(), feed(), top(), bottom() have none");
        SighChart x = new SighChart();
        x.read(4, 0);
        c.due("status()", x.status(), 1);
        c.due("status() again", x.status(), 1);
        x.fault(0);
        x.fault(9);
        x.top();
        x.bottom();
        x.feed(1, 2, 3, 4, 5);
        c.due("status() behind fault, top, bottom, feed", x.status(), 1);
        for (int i = 0; i < 45; i++) {
            x.feed(0, 0, 0, 0, 0);
        }
        c.due("status() behind a feed that gave NONE", x.status(), 1);
        x.many(0);
        c.due("status() behind one that holds", x.status(), 0);
        x.back();
        c.due("status()", x.status(), 8);
        x.tray(0, 0, 1);
        c.due("status() behind a boolean", x.status(), 0);
    }

    private static void traysAreFour(Check c) {
        c.says("TRAYS, 0 to 3; 1 no such TRAY");
        SighChart x = new SighChart();
        for (int tray = 0; tray < 4; tray++) {
            c.done(x, "tray(" + tray + ", 0, 1)", x.tray(tray, 0, 1));
            c.done(x, "write(" + tray + ", 0, 7)", x.write(tray, 0, 7 + tray));
            c.answered(x, "read(" + tray + ", 0)", x.read(tray, 0), 7 + tray);
        }
        for (int tray = 0; tray < 4; tray++) {
            c.answered(x, "each has its own", x.read(tray, 0), 7 + tray);
            c.done(x, "pour to the same place", x.pour(tray, 0, tray, 0, 1));
        }
        for (int no : new int[] {-1, 4, 5, MIN, MAX}) {
            c.denied(x, "tray(" + no + ", 0, 1)", x.tray(no, 0, 1), 1);
            c.denied(x, "write(" + no + ", 0, 1)", x.write(no, 0, 1), 1);
            c.refused(x, "read(" + no + ", 0)", x.read(no, 0), 1);
            c.denied(x, "pour(" + no + ", 0, 0, 0, 1)", x.pour(no, 0, 0, 0, 1), 1);
            c.denied(x, "pour(0, 0, " + no + ", 0, 1)", x.pour(0, 0, no, 0, 1), 1);
            c.refused(x, "copyChart(" + no + ")", x.copyChart(no), 1);
        }
    }

    private static void sortsAreFour(Check c) {
        c.says("8 bits (sort 0), 16 (1), 32 (2) or 64 (3); 1 no such TRAY (or sort)");
        SighChart x = new SighChart();
        for (int sort = 0; sort < 4; sort++) {
            c.done(x, "tray(0, " + sort + ", 1)", x.tray(0, sort, 1));
        }
        for (int no : new int[] {-1, 4, MIN, MAX}) {
            c.denied(x, "tray(0, " + no + ", 1)", x.tray(0, no, 1), 1);
            c.denied(x, "tray(0, " + no + ", 61): 1 ahead of 5", x.tray(0, no, 61), 1);
            c.denied(x, "tray(0, " + no + ", -1): 1 ahead of 6", x.tray(0, no, -1), 1);
            c.denied(x, "tray(" + no + ", 0, 61): 1 ahead of 5", x.tray(no, 0, 61), 1);
            c.denied(x, "tray(" + no + ", 0, -1): 1 ahead of 6", x.tray(no, 0, -1), 1);
        }
        c.done(x, "write: the tray is still of sort 3", x.write(0, 0, Long.MIN_VALUE));
        c.answered(x, "read", x.read(0, 0), Long.MIN_VALUE);
    }

    private static void atMostSixty(Check c) {
        c.says("A TRAY is a row of so many numbers (at most 60; 5)");
        for (int sort = 0; sort < 4; sort++) {
            SighChart x = new SighChart();
            c.denied(x, "tray(2, sort, 61)", x.tray(2, sort, 61), 5);
            c.denied(x, "tray(2, sort, MAX)", x.tray(2, sort, MAX), 5);
            c.refused(x, "read(2, 0), it is MISSING still", x.read(2, 0), 3);
            c.done(x, "tray(2, sort, 60)", x.tray(2, sort, 60));
            c.done(x, "write(2, 59, 3)", x.write(2, 59, 3));
            c.answered(x, "read(2, 59)", x.read(2, 59), 3);
            c.denied(x, "write(2, 60, 3)", x.write(2, 60, 3), 4);
            c.refused(x, "read(2, 60)", x.read(2, 60), 4);
            c.denied(x, "tray(2, sort, 61)", x.tray(2, sort, 61), 5);
            c.answered(x, "read(2, 59): a refused tray keeps the old one", x.read(2, 59), 3);
        }
    }

    private static void noneAtAll(Check c) {
        c.says("6 below 0 (a TRAY's length)");
        SighChart x = new SighChart();
        c.denied(x, "tray(1, 0, -1)", x.tray(1, 0, -1), 6);
        c.denied(x, "tray(1, 0, MIN)", x.tray(1, 0, MIN), 6);
        c.refused(x, "read(1, 0), it is MISSING still", x.read(1, 0), 3);
        c.says("a TRAY of no numbers is not MISSING");
        c.done(x, "tray(1, 0, 0)", x.tray(1, 0, 0));
        c.refused(x, "read(1, 0)", x.read(1, 0), 4);
        c.denied(x, "write(1, 0, 0)", x.write(1, 0, 0), 4);
        c.done(x, "pour(1, 0, 1, 0, 0)", x.pour(1, 0, 1, 0, 0));
        c.denied(x, "pour(1, 0, 1, 0, 1)", x.pour(1, 0, 1, 0, 1), 4);
        c.answered(x, "copyChart(1) without a SEA", x.copyChart(1), 0);
    }

    private static void allZero(Check c) {
        c.says("A TRAY is a row of so many numbers, all 0");
        SighChart x = new SighChart();
        x.tray(0, 3, 60);
        for (int place = 0; place < 60; place++) {
            x.write(0, place, place + 1L << 40);
        }
        c.done(x, "tray(0, 3, 60) anew", x.tray(0, 3, 60));
        for (int place = 0; place < 60; place++) {
            c.answered(x, "read(0, " + place + ")", x.read(0, place), 0);
        }
        x.write(0, 2, 5);
        x.tray(0, 3, 1);
        c.refused(x, "read(0, 2) of a shorter one", x.read(0, 2), 4);
        x.tray(0, 3, 3);
        c.answered(x, "read(0, 2) of a longer one again", x.read(0, 2), 0);
    }

    private static void cutToTheirBits(Check c) {
        c.says("numbers of 8 bits, 16, 32 or 64, with sign; what is written is cut to these");
        SighChart x = new SighChart();
        for (int sort = 0; sort < 4; sort++) {
            int bits = 8 << sort;
            long most = Long.MAX_VALUE >> 64 - bits;
            long least = -most - 1;
            long[][] cut = {
                {0, 0}, {1, 1}, {-1, -1}, {most, most}, {least, least}, {most + 1, least}, {least - 1, most},
                {most + 2, least + 1}, {2 * most + 1, -1}, {2 * most + 2, 0}, {2 * most + 3, 1}, {2 * least, 0}, {2 * least + 1, 1},
            };
            c.done(x, "tray(" + sort + ", ..)", x.tray(sort, sort, 2));
            for (long[] pair : cut) {
                c.done(x, "write " + pair[0], x.write(sort, 1, pair[0]));
                c.answered(x, bits + " bits of " + pair[0], x.read(sort, 1), pair[1]);
            }
        }
        for (int sort = 0; sort < 3; sort++) {
            c.done(x, "write 2 to the 32", x.write(sort, 0, 1L << 32));
            c.answered(x, "2 to the 32 by sort " + sort, x.read(sort, 0), 0);
            c.done(x, "write MAX", x.write(sort, 0, Long.MAX_VALUE));
            c.answered(x, "MAX by sort " + sort, x.read(sort, 0), -1);
            c.done(x, "write MIN", x.write(sort, 0, Long.MIN_VALUE));
            c.answered(x, "MIN by sort " + sort, x.read(sort, 0), 0);
        }
        c.says("what is written is cut to these: by the sort that the TRAY has now");
        x.tray(0, 3, 1);
        x.write(0, 0, 300);
        c.answered(x, "read(0, 0), sort 3", x.read(0, 0), 300);
        x.tray(0, 0, 1);
        x.write(0, 0, 300);
        c.answered(x, "read(0, 0), sort 0", x.read(0, 0), 44);
    }

    private static void noneFromMinusOne(Check c) {
        c.says("STATUS tells NONE from -1");
        SighChart x = new SighChart();
        x.tray(0, 0, 1);
        x.write(0, 0, 255);
        c.answered(x, "read(0, 0)", x.read(0, 0), -1);
        c.refused(x, "read(0, 1)", x.read(0, 1), 4);
    }

    private static void placesOfATray(Check c) {
        c.says("4 a place that the TRAY has not");
        SighChart x = new SighChart();
        x.tray(3, 1, 5);
        for (int place : new int[] {-1, 5, MIN, MAX}) {
            c.denied(x, "write(3, " + place + ", 1)", x.write(3, place, 1), 4);
            c.refused(x, "read(3, " + place + ")", x.read(3, place), 4);
        }
        for (int place = 0; place < 5; place++) {
            c.answered(x, "read(3, " + place + "), nothing was written", x.read(3, place), 0);
        }
        c.done(x, "write(3, 0, 8)", x.write(3, 0, 8));
        c.done(x, "write(3, 4, 9)", x.write(3, 4, 9));
        c.answered(x, "read(3, 0)", x.read(3, 0), 8);
        c.answered(x, "read(3, 4)", x.read(3, 4), 9);
        c.says("1 ahead of 3, 3 ahead of 4");
        c.denied(x, "write(2, -1, 1)", x.write(2, -1, 1), 3);
        c.refused(x, "read(2, -1)", x.read(2, -1), 3);
        c.denied(x, "write(4, -1, 1)", x.write(4, -1, 1), 1);
        c.refused(x, "read(-1, 99)", x.read(-1, 99), 1);
    }

    private static SighChart filled() {
        SighChart x = new SighChart();
        x.tray(0, 3, 6);
        x.tray(1, 3, 4);
        x.tray(2, 2, 6);
        for (int place = 0; place < 6; place++) {
            x.write(0, place, 10 + place);
            x.write(1, place, 20 + place);
            x.write(2, place, 30 + place);
        }
        return x;
    }

    private static void holds(Check c, SighChart x, int tray, long... want) {
        for (int place = 0; place < want.length; place++) {
            c.answered(x, "read(" + tray + ", " + place + ")", x.read(tray, place), want[place]);
        }
        c.refused(x, "read(" + tray + ", " + want.length + ")", x.read(tray, want.length), 4);
    }

    private static void pouredAsTheyWere(Check c) {
        c.says("So many numbers from place i on of a TRAY come to place j on of another one, or the same, as they were");
        SighChart x = filled();
        c.done(x, "pour(0, 0, 0, 1, 5)", x.pour(0, 0, 0, 1, 5));
        holds(c, x, 0, 10, 10, 11, 12, 13, 14);
        x = filled();
        c.done(x, "pour(0, 1, 0, 0, 5)", x.pour(0, 1, 0, 0, 5));
        holds(c, x, 0, 11, 12, 13, 14, 15, 15);
        x = filled();
        c.done(x, "pour(0, 3, 0, 0, 3)", x.pour(0, 3, 0, 0, 3));
        holds(c, x, 0, 13, 14, 15, 13, 14, 15);
        x = filled();
        c.done(x, "pour(0, 0, 0, 0, 6)", x.pour(0, 0, 0, 0, 6));
        holds(c, x, 0, 10, 11, 12, 13, 14, 15);
        c.done(x, "pour(0, 2, 1, 1, 2)", x.pour(0, 2, 1, 1, 2));
        holds(c, x, 1, 20, 12, 13, 23);
        holds(c, x, 0, 10, 11, 12, 13, 14, 15);
        c.done(x, "pour(1, 0, 0, 2, 4)", x.pour(1, 0, 0, 2, 4));
        holds(c, x, 0, 10, 11, 20, 12, 13, 23);
    }

    private static void pouredWithinBounds(Check c) {
        c.says("4 a place that the TRAY has not, or too few numbers");
        SighChart x = filled();
        int[][] no = {
            {-1, 0, 1}, {0, -1, 1}, {6, 0, 1}, {0, 4, 1}, {5, 0, 2}, {0, 3, 2}, {3, 0, 4}, {0, 1, 4}, {0, 0, 5}, {0, 0, MAX}, {1, 0, MAX},
            {0, 1, MAX}, {MAX, 0, 1}, {0, MAX, 1}, {MAX, 0, MAX}, {MAX, MAX, MAX}, {MIN, 0, 1}, {0, MIN, 1}, {MIN, MIN, MAX}, {-1, 0, 0},
            {0, -1, 0}, {7, 0, 0}, {0, 5, 0}, {-1, -1, 4}, {MAX, 0, 0}, {0, MIN, 0},
        };
        for (int[] p : no) {
            c.denied(x, "pour(0, " + p[0] + ", 1, " + p[1] + ", " + p[2] + ")", x.pour(0, p[0], 1, p[1], p[2]), 4);
        }
        holds(c, x, 0, 10, 11, 12, 13, 14, 15);
        holds(c, x, 1, 20, 21, 22, 23);
        c.done(x, "pour(0, 5, 1, 3, 1), the last of each", x.pour(0, 5, 1, 3, 1));
        holds(c, x, 1, 20, 21, 22, 15);
        c.done(x, "pour(0, 2, 1, 0, 4), all of the other", x.pour(0, 2, 1, 0, 4));
        holds(c, x, 1, 12, 13, 14, 15);
        c.says("no numbers may begin at a TRAY's length");
        c.done(x, "pour(0, 6, 1, 0, 0)", x.pour(0, 6, 1, 0, 0));
        c.done(x, "pour(0, 0, 1, 4, 0)", x.pour(0, 0, 1, 4, 0));
        holds(c, x, 1, 12, 13, 14, 15);
        c.says("at most 60 numbers: all of them");
        SighChart long60 = new SighChart();
        long60.tray(0, 3, 60);
        long60.tray(3, 3, 60);
        long60.write(0, 59, 8);
        c.done(long60, "pour(0, 0, 3, 0, 60)", long60.pour(0, 0, 3, 0, 60));
        c.answered(long60, "read(3, 59)", long60.read(3, 59), 8);
        c.denied(long60, "pour(0, 0, 3, 0, 61)", long60.pour(0, 0, 3, 0, 61), 4);
    }

    private static void pourAskedInThisOrder(Check c) {
        c.says("1, 3 (either), 11, 6, 4, asked in this order");
        SighChart x = filled();
        // tray 3 is missing; trays 0 and 1 are of one sort, 2 is of another
        c.denied(x, "1 alone", x.pour(4, 0, 0, 0, 1), 1);
        c.denied(x, "1 alone, of the other", x.pour(0, 0, -1, 0, 1), 1);
        c.denied(x, "1 and 3", x.pour(3, 0, 4, 0, 1), 1);
        c.denied(x, "3 and 1", x.pour(-1, 0, 3, 0, 1), 1);
        c.denied(x, "1 and 6", x.pour(0, 0, 4, 0, -1), 1);
        c.denied(x, "1 and 4", x.pour(0, 9, 4, 0, 1), 1);
        c.denied(x, "3 alone", x.pour(3, 0, 0, 0, 1), 3);
        c.denied(x, "3 alone, of the other", x.pour(0, 0, 3, 0, 1), 3);
        c.denied(x, "3 of both", x.pour(3, 0, 3, 0, 1), 3);
        c.denied(x, "3 with any sort", x.pour(2, 0, 3, 0, 1), 3);
        c.denied(x, "3 and 6", x.pour(3, 0, 0, 0, -1), 3);
        c.denied(x, "6 and 3", x.pour(0, 0, 3, 0, MIN), 3);
        c.denied(x, "3 and 4", x.pour(3, 9, 0, 0, 1), 3);
        c.denied(x, "4 and 3", x.pour(0, 9, 3, 0, 1), 3);
        c.denied(x, "11 alone", x.pour(0, 0, 2, 0, 1), 11);
        c.denied(x, "11 alone, the other way", x.pour(2, 0, 1, 0, 1), 11);
        c.denied(x, "11 with no numbers at all", x.pour(0, 0, 2, 0, 0), 11);
        c.denied(x, "11 and 6", x.pour(0, 0, 2, 0, -1), 11);
        c.denied(x, "11 and 4", x.pour(0, 9, 2, 9, 1), 11);
        c.denied(x, "6 alone", x.pour(0, 0, 1, 0, -1), 6);
        c.denied(x, "6 alone, MIN", x.pour(0, 0, 1, 0, MIN), 6);
        c.denied(x, "6 and 4", x.pour(0, 9, 1, 0, -1), 6);
        c.denied(x, "4 and 6", x.pour(0, 0, 1, -1, -1), 6);
        c.denied(x, "4 alone", x.pour(0, 6, 1, 0, 1), 4);
        holds(c, x, 0, 10, 11, 12, 13, 14, 15);
        holds(c, x, 1, 20, 21, 22, 23);
        holds(c, x, 2, 30, 31, 32, 33, 34, 35);
        for (int one = 0; one < 4; one++) {
            for (int other = 0; other < 4; other++) {
                SighChart y = new SighChart();
                y.tray(0, one, 1);
                y.tray(1, other, 1);
                boolean poured = y.pour(0, 0, 1, 0, 1);
                c.due("sorts " + one + " and " + other, poured, one == other);
                c.due("status() of sorts " + one + " and " + other, y.status(), one == other ? 0 : 11);
            }
        }
    }
}
