/** The bounds of promises 13 to 26, and of VOTES, DRAWN, RISK, SIZE, a sentence of the document at a time. */
final class ChartEdgesTest {
    private static final int[] OUTSIDE = {Integer.MIN_VALUE, -2, -1, Integer.MAX_VALUE};
    private static final String FEELING = "calm fear tears sigh";
    private static final String FULL_SEA = "row ssssss;".repeat(5) + "row sssssi;";

    public static void main(String[] args) {
        Check c = new Check("ChartEdgesTest");
        votesByTheHeard(c);
        drawnAndRisk(c);
        sizes(c);
        whatIsCounted(c);
        theLargest(c);
        noSuchNumber(c);
        copies(c);
        heardAndForgotten(c);
        tells(c);
        comes(c);
        changes(c);
        trusts(c);
        moors(c);
        rules(c);
        c.end();
    }

    private static String told(String who, String cell, int kind, int times) {
        return ("told " + who + " " + cell + " " + FEELING.split(" ")[kind] + ";").repeat(times);
    }

    private static void votesByTheHeard(Check c) {
        c.says("VOTES: how many TELLINGS of that CELL by HEARD TRAVELLERS felt that KIND");
        SighChart x = Check.with("row sss;traveller a heard;traveller b;" + told("a", "0 1", 2, 2) + told("b", "0 1", 2, 1)
                + told("b", "0 1", 3, 1) + told("a", "0 1", 0, 1) + told("b", "0 2", 1, 1));
        long[][] votes = {{0, 0, 0, 0}, {1, 0, 2, 0}, {0, 0, 0, 0}};
        for (int cell = 0; cell < 3; cell++) {
            for (int kind = 0; kind < 4; kind++) {
                c.answered(x, "votes(" + cell + ", " + kind + ")", x.votes(cell, kind), votes[cell][kind]);
            }
        }
        x.hear(1);
        long[][] more = {{0, 0, 0, 0}, {1, 0, 3, 1}, {0, 1, 0, 0}};
        for (int cell = 0; cell < 3; cell++) {
            for (int kind = 0; kind < 4; kind++) {
                c.answered(x, "votes(" + cell + ", " + kind + ")", x.votes(cell, kind), more[cell][kind]);
            }
        }
        c.says("how many TELLINGS of it there are, HEARD or not");
        c.answered(x, "cell(1, 4)", x.cell(1, 4), 5);
        x.forget(0);
        x.forget(1);
        c.answered(x, "cell(1, 4)", x.cell(1, 4), 5);
        c.answered(x, "cell(2, 4)", x.cell(2, 4), 1);
        c.answered(x, "cell(0, 4)", x.cell(0, 4), 0);
        c.answered(x, "votes(1, 2), none is HEARD", x.votes(1, 2), 0);
    }

    /** All ways in which at most five tellings of a cell can feel. */
    private static void drawnAndRisk(Check c) {
        for (int calm = 0; calm <= 5; calm++) {
            for (int fear = 0; fear <= 5 - calm; fear++) {
                for (int tears = 0; tears <= 5 - calm - fear; tears++) {
                    for (int sigh = 0; sigh <= 5 - calm - fear - tears; sigh++) {
                        drawnAndRisk(c, new int[] {calm, fear, tears, sigh});
                    }
                }
            }
        }
    }

    private static void drawnAndRisk(Check c, int[] votes) {
        SighChart x = Check.with("row sss;traveller a heard;" + told("a", "0 1", 0, votes[0]) + told("a", "0 1", 1, votes[1])
                + told("a", "0 1", 2, votes[2]) + told("a", "0 1", 3, votes[3]));
        String name = votes[0] + " calm, " + votes[1] + " fear, " + votes[2] + " tears, " + votes[3] + " sigh: ";
        int all = 0;
        int drawn = 4;
        for (int kind = 0; kind < 4; kind++) {
            all += votes[kind];
            boolean most = true;
            for (int other = 0; other < 4; other++) {
                most &= other == kind || votes[kind] > votes[other];
            }
            drawn = most ? kind : drawn;
            c.answered(x, name + "votes(1, " + kind + ")", x.votes(1, kind), votes[kind]);
        }
        c.says("DRAWN as the KIND with the most VOTES; WHITE (4) without VOTES, or if two have as many and none has more");
        c.answered(x, name + "cell(1, 1)", x.cell(1, 1), drawn);
        c.answered(x, name + "many(7)", x.many(7), drawn == 4 ? 3 : 2);
        c.says("how many are DRAWN as they are in the SEA");
        c.answered(x, name + "many(8)", x.many(8), drawn == 0 ? 1 : 0);
        c.says("RISK: 16 if it is DRAWN as rock, 6 if it is WHITE, else 16 times its VOTES for rock by all its VOTES, rounded down");
        c.answered(x, name + "cell(1, 2)", x.cell(1, 2), drawn == 1 ? 16 : drawn == 4 ? 6 : 16 * votes[1] / all);
        c.answered(x, name + "cell(0, 2)", x.cell(0, 2), 6);
    }

    private static void sizes(Check c) {
        c.says("SIZE: by how much it is MISSED by all TELLINGS of HEARD TRAVELLERS who felt an island there, together");
        SighChart x = Check.with("row ss;traveller a heard;traveller b;told a 0 0 sigh missed 9;told a 0 0 sigh missed 2;"
                + "told a 0 0 tears missed 8;told b 0 0 sigh missed 5;told a 0 1 sigh missed 7;told a 0 0 sigh;");
        c.answered(x, "cell(0, 3)", x.cell(0, 3), 11);
        c.answered(x, "cell(1, 3)", x.cell(1, 3), 7);
        x.hear(1);
        c.answered(x, "cell(0, 3), b HEARD, too", x.cell(0, 3), 16);
        x.forget(0);
        c.answered(x, "cell(0, 3), a forgotten", x.cell(0, 3), 5);
        c.answered(x, "cell(1, 3), a forgotten", x.cell(1, 3), 0);
        SighChart most = Check.with("row s;traveller a heard;" + "told a 0 0 sigh missed 9;".repeat(5));
        c.answered(most, "cell(0, 3), the most", most.cell(0, 3), 45);
        c.says("also of a CELL that is not DRAWN as an island");
        SighChart white = Check.with("row s;traveller a heard;told a 0 0 sigh missed 3;told a 0 0 calm missed 4;told a 0 0 calm;");
        c.answered(white, "cell(0, 1)", white.cell(0, 1), 0);
        c.answered(white, "cell(0, 3)", white.cell(0, 3), 3);
    }

    private static void whatIsCounted(Check c) {
        c.says("FALSE is a TELLING of another KIND than that of the CELL in the SEA");
        SighChart x = Check.with("row srbi;traveller a;traveller b heard;" + told("a", "0 0", 0, 1) + told("a", "0 1", 0, 1)
                + told("a", "0 2", 2, 1) + told("a", "0 3", 2, 1) + told("b", "0 3", 3, 1));
        c.answered(x, "traveller(0, 2), HEARD or not", x.traveller(0, 2), 4);
        c.answered(x, "traveller(0, 3), HEARD or not", x.traveller(0, 3), 2);
        c.answered(x, "traveller(1, 2)", x.traveller(1, 2), 1);
        c.answered(x, "traveller(1, 3)", x.traveller(1, 3), 0);
        x.change(3, 0);
        c.answered(x, "traveller(1, 3), another SEA", x.traveller(1, 3), 1);
        c.says("DRAWN as they are in the SEA: WHITE is none of its KINDS");
        c.answered(x, "many(8)", x.many(8), 0);
        x.change(3, 3);
        c.answered(x, "many(8)", x.many(8), 1);
        x.hear(0);
        c.answered(x, "many(8)", x.many(8), 2);
        c.answered(x, "many(7)", x.many(7), 1);
        c.says("the set of TRAVELLERS who are HEARD (1 for TRAVELLER 0 ..)");
        SighChart five = Check.with("traveller a;traveller b;traveller c;traveller d;traveller e;");
        int set = 0;
        for (int who = 0; who < 5; who++) {
            c.answered(five, "hear(" + who + ")", five.hear(who), 0);
            set += 1 << who;
            c.answered(five, "many(6)", five.many(6), set);
        }
        for (int who = 0; who < 5; who++) {
            c.answered(five, "forget(" + who + ")", five.forget(who), 0);
            set -= 1 << who;
            c.answered(five, "many(6)", five.many(6), set);
        }
    }

    private static void theLargest(Check c) {
        c.says("at most 6 ROWS of 6 CELLS, 5 TRAVELLERS, 12 TELLINGS");
        SighChart x = Check.with(FULL_SEA + "odds 16;harbour 5 5;traveller a lies 16 heard;traveller b;traveller d;traveller e;"
                + "traveller f heard;" + told("a", "5 5", 3, 3) + told("f", "5 5", 3, 2) + told("b", "0 0", 0, 5) + told("f", "5 4", 1, 2));
        c.many(x, 6, 6, 5, 12, 16, 35, 17, 34, 1);
        long[] last = {3, 3, 0, 0, 5};
        for (int what = 0; what < last.length; what++) {
            c.answered(x, "cell(35, " + what + ")", x.cell(35, what), last[what]);
        }
        c.answered(x, "votes(35, 3)", x.votes(35, 3), 5);
        c.answered(x, "cell(34, 2)", x.cell(34, 2), 16);
        c.answered(x, "telling(11, 1)", x.telling(11, 1), 34);
        c.answered(x, "traveller(4, 2)", x.traveller(4, 2), 4);
        c.refused(x, "cell(36, 0)", x.cell(36, 0), 2);
        c.refused(x, "votes(36, 0)", x.votes(36, 0), 2);
        c.refused(x, "telling(12, 0)", x.telling(12, 0), 2);
        c.refused(x, "traveller(5, 0)", x.traveller(5, 0), 2);
        x.tray(0, 0, 36);
        c.answered(x, "copyChart(0)", x.copyChart(0), 36);
        c.answered(x, "read(0, 35)", x.read(0, 35), 3);
        c.answered(x, "read(0, 0)", x.read(0, 0), 4);
        x.tray(0, 0, 35);
        c.refused(x, "copyChart(0), one too few", x.copyChart(0), 4);
    }

    private static void noSuchNumber(Check c) {
        SighChart x = Check.with("row sr;row bi;traveller a heard;traveller b;told a 1 1 sigh;");
        c.says("many: 5");
        c.refused(x, "many(9)", x.many(9), 5);
        c.says("cell, votes, traveller, telling: 2; 5");
        c.refused(x, "cell(4, 0)", x.cell(4, 0), 2);
        c.refused(x, "cell(4, 5)", x.cell(4, 5), 2);
        c.refused(x, "cell(3, 5)", x.cell(3, 5), 5);
        c.refused(x, "votes(4, 0)", x.votes(4, 0), 2);
        c.refused(x, "votes(4, 4)", x.votes(4, 4), 2);
        c.refused(x, "votes(3, 4)", x.votes(3, 4), 5);
        c.refused(x, "traveller(2, 0)", x.traveller(2, 0), 2);
        c.refused(x, "traveller(2, 4)", x.traveller(2, 4), 2);
        c.refused(x, "traveller(1, 4)", x.traveller(1, 4), 5);
        c.refused(x, "telling(1, 0)", x.telling(1, 0), 2);
        c.refused(x, "telling(1, 4)", x.telling(1, 4), 2);
        c.refused(x, "telling(0, 4)", x.telling(0, 4), 5);
        for (int no : OUTSIDE) {
            c.refused(x, "many(" + no + ")", x.many(no), 5);
            c.refused(x, "cell(" + no + ", 0)", x.cell(no, 0), 2);
            c.refused(x, "cell(" + no + ", " + no + ")", x.cell(no, no), 2);
            c.refused(x, "cell(0, " + no + ")", x.cell(0, no), 5);
            c.refused(x, "votes(" + no + ", 0)", x.votes(no, 0), 2);
            c.refused(x, "votes(" + no + ", " + no + ")", x.votes(no, no), 2);
            c.refused(x, "votes(0, " + no + ")", x.votes(0, no), 5);
            c.refused(x, "traveller(" + no + ", 0)", x.traveller(no, 0), 2);
            c.refused(x, "traveller(" + no + ", " + no + ")", x.traveller(no, no), 2);
            c.refused(x, "traveller(0, " + no + ")", x.traveller(0, no), 5);
            c.refused(x, "telling(" + no + ", 0)", x.telling(no, 0), 2);
            c.refused(x, "telling(" + no + ", " + no + ")", x.telling(no, no), 2);
            c.refused(x, "telling(0, " + no + ")", x.telling(0, no), 5);
        }
        long[] first = {0, 4, 6, 0, 0};
        long[] last = {3, 3, 0, 0, 1};
        for (int what = 0; what < 5; what++) {
            c.answered(x, "cell(0, " + what + ")", x.cell(0, what), first[what]);
            c.answered(x, "cell(3, " + what + ")", x.cell(3, what), last[what]);
        }
        long[] of = {0, 3, 3, 0};
        long[] ann = {0, 1, 1, 0};
        for (int what = 0; what < 4; what++) {
            c.answered(x, "telling(0, " + what + ")", x.telling(0, what), of[what]);
            c.answered(x, "traveller(0, " + what + ")", x.traveller(0, what), ann[what]);
            c.answered(x, "traveller(1, " + what + ")", x.traveller(1, what), 0);
            c.answered(x, "votes(3, " + what + ")", x.votes(3, what), what == 3 ? 1 : 0);
        }
    }

    private static void copies(Check c) {
        c.says("All CELLS as they are DRAWN, one by one, come to a TRAY: how many (1; 3; 4)");
        for (int sort = 0; sort < 4; sort++) {
            SighChart x = Check.with("row sss;traveller a heard;" + told("a", "0 1", 3, 1) + told("a", "0 2", 1, 1));
            c.refused(x, "copyChart(2), MISSING", x.copyChart(2), 3);
            x.tray(2, sort, 2);
            x.write(2, 0, 55);
            x.write(2, 1, 56);
            c.refused(x, "copyChart(2), too few", x.copyChart(2), 4);
            c.answered(x, "read(2, 0), nothing came", x.read(2, 0), 55);
            c.answered(x, "read(2, 1), nothing came", x.read(2, 1), 56);
            x.tray(2, sort, 3);
            c.answered(x, "copyChart(2), just as many", x.copyChart(2), 3);
            c.answered(x, "read(2, 0)", x.read(2, 0), 4);
            c.answered(x, "read(2, 1)", x.read(2, 1), 3);
            c.answered(x, "read(2, 2)", x.read(2, 2), 1);
            x.tray(2, sort, 60);
            x.write(2, 3, 57);
            c.answered(x, "copyChart(2), many more", x.copyChart(2), 3);
            c.answered(x, "read(2, 2)", x.read(2, 2), 1);
            c.answered(x, "read(2, 3) stays", x.read(2, 3), 57);
            x.tray(3, sort, 0);
            c.refused(x, "copyChart(3), a TRAY of none", x.copyChart(3), 4);
        }
        SighChart none = new SighChart();
        c.refused(none, "copyChart(0) without a SEA, MISSING", none.copyChart(0), 3);
        c.refused(none, "copyChart(4) without a SEA", none.copyChart(4), 1);
        none.tray(0, 2, 0);
        c.answered(none, "copyChart(0) without a SEA", none.copyChart(0), 0);
    }

    private static void heardAndForgotten(Check c) {
        SighChart x = Check.with("row sss;traveller a;traveller b heard;traveller d;" + told("a", "0 0", 0, 1) + told("a", "0 1", 1, 1)
                + told("b", "0 1", 2, 1) + told("b", "0 2", 2, 1) + told("d", "0 2", 2, 1));
        c.says("HEAR: how many CELLS are not WHITE then (2; 9: he is)");
        for (int no : new int[] {Integer.MIN_VALUE, -1, 3, 4, 5, 32, Integer.MAX_VALUE}) {
            c.refused(x, "hear(" + no + ")", x.hear(no), 2);
            c.refused(x, "forget(" + no + ")", x.forget(no), 2);
        }
        c.answered(x, "many(6)", x.many(6), 2);
        c.refused(x, "hear(1)", x.hear(1), 9);
        c.answered(x, "many(6)", x.many(6), 2);
        c.answered(x, "hear(0): they clash over one", x.hear(0), 2);
        c.refused(x, "hear(0) again", x.hear(0), 9);
        c.answered(x, "many(6)", x.many(6), 3);
        c.says("FORGET: how many CELLS are not WHITE then (2; 9: he is not HEARD)");
        c.refused(x, "forget(2)", x.forget(2), 9);
        c.answered(x, "many(6)", x.many(6), 3);
        c.answered(x, "forget(1)", x.forget(1), 2);
        c.refused(x, "forget(1) again", x.forget(1), 9);
        c.answered(x, "hear(2)", x.hear(2), 3);
        c.answered(x, "forget(0)", x.forget(0), 1);
        c.answered(x, "forget(2)", x.forget(2), 0);
        c.refused(x, "forget(2) again", x.forget(2), 9);
        c.answered(x, "many(6)", x.many(6), 0);
    }

    private static void tells(Check c) {
        c.says("TELL (KIND 0 to 3, MISSED by 0 to 9): its number");
        SighChart x = Check.with("row ssss;row ssss;traveller a heard;traveller b lies 16;");
        for (int kind = 0; kind < 4; kind++) {
            c.answered(x, "tell(1, " + kind + ", " + kind + ", " + 3 * kind + ")", x.tell(1, kind, kind, 3 * kind), kind);
            c.answered(x, "telling(.., 0)", x.telling(kind, 0), 1);
            c.answered(x, "telling(.., 1)", x.telling(kind, 1), kind);
            c.answered(x, "telling(.., 2)", x.telling(kind, 2), kind);
            c.answered(x, "telling(.., 3)", x.telling(kind, 3), 3 * kind);
        }
        c.answered(x, "many(7), b is not HEARD", x.many(7), 8);
        c.says("2, then 5");
        for (int no : new int[] {Integer.MIN_VALUE, -1, 2, 5, Integer.MAX_VALUE}) {
            c.refused(x, "tell(" + no + ", 0, 0, 0)", x.tell(no, 0, 0, 0), 2);
            c.refused(x, "tell(" + no + ", 0, 4, 0)", x.tell(no, 0, 4, 0), 2);
            c.refused(x, "tell(" + no + ", 99, 0, 10)", x.tell(no, 99, 0, 10), 2);
        }
        for (int no : new int[] {Integer.MIN_VALUE, -1, 8, 36, Integer.MAX_VALUE}) {
            c.refused(x, "tell(0, " + no + ", 0, 0)", x.tell(0, no, 0, 0), 2);
            c.refused(x, "tell(0, " + no + ", -1, 0)", x.tell(0, no, -1, 0), 2);
            c.refused(x, "tell(0, " + no + ", 0, 10)", x.tell(0, no, 0, 10), 2);
        }
        for (int no : new int[] {Integer.MIN_VALUE, -1, 4, 5, Integer.MAX_VALUE}) {
            c.refused(x, "tell(0, 0, " + no + ", 0)", x.tell(0, 0, no, 0), 5);
        }
        for (int no : new int[] {Integer.MIN_VALUE, -1, 10, 11, Integer.MAX_VALUE}) {
            c.refused(x, "tell(0, 0, 0, " + no + ")", x.tell(0, 0, 0, no), 5);
        }
        c.answered(x, "many(3), none came", x.many(3), 4);
        c.says("7: a sixth of that CELL");
        for (int i = 4; i < 9; i++) {
            c.answered(x, "tell(0, 7, 3, 9)", x.tell(0, 7, 3, 9), i);
        }
        c.refused(x, "tell(0, 7, 3, 9)", x.tell(0, 7, 3, 9), 7);
        c.refused(x, "tell(1, 7, 3, 9), another one", x.tell(1, 7, 3, 9), 7);
        c.refused(x, "2 and 7", x.tell(2, 7, 3, 9), 2);
        c.refused(x, "5 and 7, the KIND", x.tell(0, 7, 4, 9), 5);
        c.refused(x, "5 and 7, by how much", x.tell(0, 7, 3, 10), 5);
        c.answered(x, "many(3), none came", x.many(3), 9);
        c.says("7: a 13th");
        for (int i = 9; i < 12; i++) {
            c.answered(x, "tell(0, 5, 1, 0)", x.tell(0, 5, 1, 0), i);
        }
        c.refused(x, "tell(0, 5, 1, 0), a 13th", x.tell(0, 5, 1, 0), 7);
        c.refused(x, "tell(0, 6, 1, 0), a 13th of a CELL without", x.tell(0, 6, 1, 0), 7);
        c.refused(x, "2 and 7", x.tell(0, 8, 1, 0), 2);
        c.refused(x, "5 and 7", x.tell(0, 6, 1, 10), 5);
        c.answered(x, "many(3)", x.many(3), 12);
        c.answered(x, "cell(5, 4)", x.cell(5, 4), 3);
    }

    private static void comes(Check c) {
        c.says("A TRAVELLER more, who LIES by so much (0 to 16), not HEARD: his number (5; 7: a sixth)");
        SighChart x = Check.with("row s;traveller a heard;told a 0 0 calm;");
        for (int no : new int[] {Integer.MIN_VALUE, -1, 17, 18, Integer.MAX_VALUE}) {
            c.refused(x, "come(" + no + ")", x.come(no), 5);
        }
        int[] lies = {-1, 0, 16, 1, 15};
        for (int who = 1; who < 5; who++) {
            c.refused(x, "traveller(" + who + ", 0) ahead", x.traveller(who, 0), 2);
            c.answered(x, "come(" + lies[who] + ")", x.come(lies[who]), who);
            c.answered(x, "many(2)", x.many(2), who + 1);
            c.answered(x, "traveller(" + who + ", 0)", x.traveller(who, 0), lies[who]);
            c.answered(x, "traveller(" + who + ", 1)", x.traveller(who, 1), 0);
            c.answered(x, "traveller(" + who + ", 2)", x.traveller(who, 2), 0);
            c.answered(x, "traveller(" + who + ", 3)", x.traveller(who, 3), 0);
        }
        c.answered(x, "many(6)", x.many(6), 1);
        c.refused(x, "come(0), a sixth", x.come(0), 7);
        c.refused(x, "come(16), a sixth", x.come(16), 7);
        c.refused(x, "5 and 7", x.come(17), 5);
        c.refused(x, "5 and 7", x.come(-1), 5);
        c.answered(x, "many(2)", x.many(2), 5);
        SighChart none = new SighChart();
        c.answered(none, "come(3) to an empty DUCHY", none.come(3), 0);
        c.answered(none, "hear(0)", none.hear(0), 0);
        c.says("not HEARD, also where one was HEARD who is gone");
        Check.duchy(none, "traveller a heard;traveller b heard;");
        Check.duchy(none, "row s;");
        c.answered(none, "come(3)", none.come(3), 0);
        c.answered(none, "traveller(0, 1)", none.traveller(0, 1), 0);
        c.answered(none, "many(6)", none.many(6), 0);
    }

    private static void changes(Check c) {
        c.says("KIND of a CELL in the SEA from now on: what it was (2; 5)");
        SighChart x = Check.with("row sr;row bi;traveller a heard;" + told("a", "1 1", 3, 1));
        int was = 3;
        for (int kind = 0; kind < 4; kind++) {
            c.answered(x, "change(3, " + kind + ")", x.change(3, kind), was);
            c.answered(x, "cell(3, 0)", x.cell(3, 0), kind);
            c.answered(x, "cell(3, 1), as it was DRAWN", x.cell(3, 1), 3);
            c.answered(x, "many(8)", x.many(8), kind == 3 ? 1 : 0);
            c.answered(x, "traveller(0, 3)", x.traveller(0, 3), kind == 3 ? 0 : 1);
            was = kind;
        }
        for (int no : new int[] {Integer.MIN_VALUE, -1, 4, 36, Integer.MAX_VALUE}) {
            c.refused(x, "change(" + no + ", 0)", x.change(no, 0), 2);
            c.refused(x, "change(" + no + ", 4)", x.change(no, 4), 2);
            c.refused(x, "change(0, " + no + ")", x.change(0, no), 5);
        }
        for (int cell = 0; cell < 4; cell++) {
            c.answered(x, "cell(" + cell + ", 0)", x.cell(cell, 0), cell);
        }
    }

    private static void trusts(Check c) {
        c.says("By what a TRAVELLER LIES from now on (0 to 16): what it was (2; 5)");
        SighChart x = Check.with("traveller a lies 7;traveller b lies 8;");
        int was = 8;
        for (int lies = 0; lies <= 16; lies++) {
            c.answered(x, "trust(1, " + lies + ")", x.trust(1, lies), was);
            c.answered(x, "traveller(1, 0)", x.traveller(1, 0), lies);
            was = lies;
        }
        for (int no : new int[] {Integer.MIN_VALUE, -1, 2, 5, Integer.MAX_VALUE}) {
            c.refused(x, "trust(" + no + ", 0)", x.trust(no, 0), 2);
            c.refused(x, "trust(" + no + ", 17)", x.trust(no, 17), 2);
        }
        for (int no : new int[] {Integer.MIN_VALUE, -1, 17, Integer.MAX_VALUE}) {
            c.refused(x, "trust(0, " + no + ")", x.trust(0, no), 5);
        }
        c.answered(x, "traveller(0, 0)", x.traveller(0, 0), 7);
        c.answered(x, "traveller(1, 0)", x.traveller(1, 0), 16);
    }

    private static void moors(Check c) {
        c.says("The HARBOUR is at a CELL from now on: where it was (2)");
        SighChart x = Check.with("row sss;row sss;harbour 1 0;");
        int was = 3;
        for (int cell = 0; cell < 6; cell++) {
            c.answered(x, "moor(" + cell + ")", x.moor(cell), was);
            c.answered(x, "many(5)", x.many(5), cell);
            c.answered(x, "wayAt(0, 0)", x.wayAt(0, 0), cell);
            was = cell;
        }
        for (int no : new int[] {Integer.MIN_VALUE, -1, 6, 36, Integer.MAX_VALUE}) {
            c.refused(x, "moor(" + no + ")", x.moor(no), 2);
        }
        c.answered(x, "many(5)", x.many(5), 5);
        SighChart none = new SighChart();
        c.refused(none, "moor(0) without a SEA", none.moor(0), 2);
    }

    private static void rules(Check c) {
        c.says("ODDS (0 to 16) from now on (5)");
        SighChart x = new SighChart();
        for (int odds = 0; odds <= 16; odds++) {
            c.done(x, "rule(" + odds + ")", x.rule(odds));
            c.answered(x, "many(4)", x.many(4), odds);
        }
        for (int no : new int[] {Integer.MIN_VALUE, -1, 17, Integer.MAX_VALUE}) {
            c.denied(x, "rule(" + no + ")", x.rule(no), 5);
        }
        c.answered(x, "many(4)", x.many(4), 16);
    }
}
