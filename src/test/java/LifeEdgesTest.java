import java.util.ArrayList;
import java.util.List;

/** The bounds of promises 44 to 46, a sentence of the document at a time. */
final class LifeEdgesTest {
    private static final int MIN = Integer.MIN_VALUE;
    private static final int MAX = Integer.MAX_VALUE;
    private static final String SEA = "row ssr;row bis;traveller ann lies 3;traveller bob heard;";

    public static void main(String[] args) {
        Check c = new Check("LifeEdgesTest");
        seeds(c);
        noYears(c);
        yearsWithoutSteps(c);
        whatCanNotBeIsMissed(c);
        tellingsThatCanNotCome(c);
        sailing(c);
        allStaysSo(c);
        tests(c);
        skipped(c);
        asOften(c);
        atMostThreeHundred(c);
        stops(c);
        drawsOfAny(c);
        drawnThoughItCanNotCome(c);
        alwaysOrNeverLying(c);
        whatWasLived(c);
        meanOfSeeds(c);
        allStaysByAMean(c);
        c.end();
    }

    /** These years on a new object, lived by seed 0: how many steps, and lived(0) to lived(4). */
    private static SighChart lives(Check c, String duchy, String years, int steps, long... lived) {
        SighChart x = Check.with(duchy);
        Check.years(x, years);
        c.answered(x, "live(0) of " + years, x.live(0), steps);
        c.lived(x, lived);
        return x;
    }

    private static void seeds(Check c) {
        c.says("LIVED by a seed (0 to 9,999); 5");
        SighChart x = Check.with(SEA);
        Check.years(x, "any;");
        for (int no : new int[] {MIN, -1, 10000, 65536, MAX}) {
            c.refused(x, "live(" + no + ")", x.live(no), 5);
        }
        c.answered(x, "many(3), none came", x.many(3), 0);
        c.answered(x, "live(0)", x.live(0), 1);
        c.answered(x, "live(9999)", x.live(9999), 1);
        c.answered(x, "many(3)", x.many(3), 2);
    }

    private static void noYears(Check c) {
        c.says("5; 8: no YEARS");
        SighChart[] without = {new SighChart(), Check.with(SEA), Check.with("")};
        for (SighChart x : without) {
            c.refused(x, "live(0)", x.live(0), 8);
            c.refused(x, "live(9999)", x.live(9999), 8);
            c.refused(x, "live(10000): 5 ahead of 8", x.live(10000), 5);
            c.refused(x, "live(-1): 5 ahead of 8", x.live(-1), 5);
            c.denied(x, "mean(0, 1)", x.mean(0, 1), 8);
            c.denied(x, "mean(9980, 20)", x.mean(9980, 20), 8);
            c.denied(x, "mean(0, 0): 5 ahead of 8", x.mean(0, 0), 5);
            c.denied(x, "mean(0, 21): 5 ahead of 8", x.mean(0, 21), 5);
            c.denied(x, "mean(10000, 1): 5 ahead of 8", x.mean(10000, 1), 5);
            c.denied(x, "mean(9981, 20): 5 ahead of 8", x.mean(9981, 20), 5);
            c.refused(x, "lived(0)", x.lived(0), 8);
        }
        SighChart faulty = Check.with(SEA);
        Check.years(faulty, "any;end;");
        c.refused(faulty, "live(0), years with a FAULT are none", faulty.live(0), 8);
    }

    private static void yearsWithoutSteps(Check c) {
        c.says("YEARS without STEPS: none is come to");
        SighChart x = lives(c, SEA, "", 0, 0, 0, 0, 0, 0);
        c.fraction(x, "mean(0, 20)", x.mean(0, 20), 0, 1);
        c.answered(x, "many(6)", x.many(6), 2);
        SighChart none = lives(c, "", " ", 0, 0, 0, 0, 0, 0);
        c.fraction(none, "mean(0, 1)", none.mean(0, 1), 0, 1);
    }

    private static void whatCanNotBeIsMissed(Check c) {
        c.says("What can't be is MISSED: a hear of who is HEARD");
        SighChart x = lives(c, SEA, "hear bob;", 1, 1, 0, 0, 0, 0);
        c.answered(x, "many(6)", x.many(6), 2);
        lives(c, SEA, "hear ann;", 1, 0, 0, 0, 0, 0);
        lives(c, SEA, "hear ann;hear ann;hear ann;", 3, 2, 0, 0, 0, 0);
        c.says("a forget of who is not");
        SighChart y = lives(c, SEA, "forget ann;", 1, 1, 0, 0, 0, 0);
        c.answered(y, "many(6)", y.many(6), 2);
        lives(c, SEA, "forget bob;", 1, 0, 0, 0, 0, 0);
        lives(c, SEA, "forget bob;forget bob;", 2, 1, 0, 0, 0, 0);
        lives(c, SEA, "hear ann;forget ann;hear ann;forget bob;hear bob;forget bob;", 6, 0, 0, 0, 0, 0);
        c.says("any without TRAVELLERS, CELLS");
        lives(c, "", "any;", 1, 1, 0, 0, 0, 0);
        lives(c, "row s;", "any;any;", 2, 2, 0, 0, 0, 0);
        lives(c, "traveller ann;", "any;any;any;", 3, 3, 0, 0, 0, 0);
        lives(c, "row s;traveller ann;", "any;", 1, 0, 1, 0, 0, 0);
        c.says("when, loop, stop are never MISSED");
        lives(c, SEA, "when heard ann;end;loop 5;end;stop;", 3, 0, 0, 0, 0, 0);
    }

    private static void tellingsThatCanNotCome(Check c) {
        c.says("a sixth of a CELL");
        SighChart x = lives(c, SEA, "told ann 0 1 sigh;".repeat(7), 7, 2, 5, 0, 0, 0);
        c.answered(x, "cell(1, 4)", x.cell(1, 4), 5);
        c.says("told (MISSED by 0)");
        for (int i = 0; i < 5; i++) {
            c.telling(x, i, 0, 1, 3, 0);
        }
        c.says("MISSED by 0, also where one was that is gone");
        SighChart gone = Check.with("row s;traveller ann;");
        gone.mark();
        gone.tell(0, 0, 3, 9);
        gone.back();
        Check.years(gone, "told ann 0 0 sigh;");
        gone.live(0);
        c.answered(gone, "telling(0, 3)", gone.telling(0, 3), 0);
        c.says("a 13th TELLING");
        String twelve = "told ann 0 0 calm;".repeat(5) + "told bob 0 1 fear;".repeat(5) + "told ann 1 2 calm;told bob 1 2 tears;";
        SighChart full = lives(c, SEA + twelve, "told ann 1 1 calm;told bob 0 0 calm;", 2, 2, 0, 0, 0, 0);
        c.answered(full, "many(3)", full.many(3), 12);
        SighChart last = lives(c, SEA + twelve.substring(0, twelve.length() - "told bob 1 2 tears;".length()),
                "told ann 1 1 calm;told ann 1 1 calm;", 2, 1, 1, 0, 0, 0);
        c.answered(last, "telling(11, 1)", last.telling(11, 1), 4);
        c.says("by any, too");
        lives(c, SEA + twelve, "any;any;", 2, 2, 0, 0, 0, 0);
        SighChart six = lives(c, "row s;traveller ann;", "any;any;any;any;any;any;any;", 7, 2, 5, 0, 0, 0);
        c.answered(six, "many(3)", six.many(3), 5);
    }

    private static void sailing(Check c) {
        c.says("a sail to where there is no WAY");
        String walled = "row sss;row sss;traveller ann heard;traveller bob heard;told ann 0 1 fear;told ann 1 0 fear;";
        lives(c, walled, "sail 0 1;sail 1 0;sail 1 1;sail 0 2;", 4, 4, 0, 0, 0, 0);
        lives(c, walled, "sail 0 0;", 1, 0, 0, 1, 0, 0);
        lives(c, walled, "sail 0 2;forget ann;sail 0 2;", 3, 1, 0, 1, 0, 0);
        c.says("how often one SAILED, of these WRECKED");
        lives(c, "row ssrs;", "sail 0 0;sail 0 1;sail 0 2;sail 0 3;sail 0 3;", 5, 0, 0, 5, 3, 0);
        lives(c, "row sbi;", "sail 0 2;", 1, 0, 0, 1, 0, 0);
        lives(c, "row sr;", "sail 0 1;", 1, 0, 0, 1, 1, 0);
        lives(c, "row srs;", "sail 0 2;", 1, 0, 0, 1, 1, 0);
        lives(c, "row rs;", "sail 0 0;sail 0 1;", 2, 0, 0, 2, 0, 0);
        lives(c, "row sr;harbour 0 1;", "sail 0 1;sail 0 0;", 2, 0, 0, 2, 0, 0);
        c.says("by what is DRAWN then");
        lives(c, "row srs;row sss;traveller ann;", "sail 0 2;told ann 0 1 fear;sail 0 2;hear ann;sail 0 2;", 5, 0, 1, 3, 2, 0);
    }

    private static void allStaysSo(Check c) {
        c.says("LIVED by a seed: all is as it becomes by it, and stays so");
        SighChart x = Check.with(SEA);
        Check.years(x, "hear ann;forget bob;told ann 0 1 tears;");
        c.answered(x, "live(5)", x.live(5), 3);
        c.answered(x, "many(6)", x.many(6), 1);
        c.answered(x, "many(3)", x.many(3), 1);
        c.answered(x, "cell(1, 1)", x.cell(1, 1), 2);
        c.answered(x, "live(5) again: from there on", x.live(5), 3);
        c.lived(x, 2, 1, 0, 0, 0);
        c.answered(x, "many(3)", x.many(3), 2);
        c.answered(x, "hear(1)", x.hear(1), 1);
        c.answered(x, "live(5)", x.live(5), 3);
        c.lived(x, 1, 1, 0, 0, 0);
    }

    private static void holds(Check c, String test, boolean holds) {
        SighChart x = Check.with(SEA + "told bob 0 0 calm;told bob 0 1 fear;told bob 1 1 calm;told bob 1 1 fear;told ann 1 2 sigh;");
        Check.years(x, "when " + test + ";hear ann;end;stop;");
        c.answered(x, "when " + test, x.live(0), holds ? 3 : 2);
        c.answered(x, "many(6) behind when " + test, x.many(6), holds ? 3 : 2);
    }

    private static void tests(Check c) {
        c.says("TEST: heard NAME");
        holds(c, "heard bob", true);
        holds(c, "heard ann", false);
        c.says("TEST: white NUMBER NUMBER");
        boolean[] white = {false, false, true, true, true, true};
        for (int cell = 0; cell < 6; cell++) {
            holds(c, "white " + cell / 3 + " " + cell % 3, white[cell]);
        }
        c.says("TEST: drawn NUMBER NUMBER FEELING");
        String[] feelings = {"calm", "fear", "tears", "sigh"};
        for (int kind = 0; kind < 4; kind++) {
            holds(c, "drawn 0 0 " + feelings[kind], kind == 0);
            holds(c, "drawn 0 1 " + feelings[kind], kind == 1);
            holds(c, "drawn 1 1 " + feelings[kind], false);
            holds(c, "drawn 0 2 " + feelings[kind], false);
            holds(c, "drawn 1 2 " + feelings[kind], false);
        }
        c.says("known: how many CELLS are not WHITE, against 0 to 36");
        for (int n = 0; n <= 36; n++) {
            holds(c, "known < " + n, 2 < n);
            holds(c, "known = " + n, 2 == n);
            holds(c, "known > " + n, 2 > n);
        }
        c.says("known without a SEA");
        lives(c, "", "when known = 0;stop;end;", 2);
        lives(c, "", "when known > 0;stop;end;", 1);
        lives(c, "", "when known < 1;stop;end;", 2);
    }

    private static void skipped(Check c) {
        c.says("when TEST ; {STEP} end ;: what is within is left out if it does not hold");
        lives(c, SEA, "when heard ann;hear bob;loop 3;when heard bob;hear bob;end;end;stop;end;forget bob;", 2, 0, 0, 0, 0, 0);
        lives(c, SEA, "when heard bob;when heard ann;stop;end;forget bob;end;hear bob;", 4, 0, 0, 0, 0, 0);
        lives(c, SEA, "when heard ann;end;when heard bob;end;when heard ann;stop;end;", 3, 0, 0, 0, 0, 0);
        c.says("a when is asked once each time it is come to");
        lives(c, SEA, "when heard bob;forget bob;forget bob;end;", 3, 1, 0, 0, 0, 0);
        lives(c, SEA, "loop 3;when heard bob;forget bob;end;end;", 5, 0, 0, 0, 0, 0);
    }

    private static void asOften(Check c) {
        c.says("loop n (1 to 99): as often");
        lives(c, SEA, "loop 1;hear bob;end;", 2, 1, 0, 0, 0, 0);
        lives(c, SEA, "loop 2;hear bob;end;", 3, 2, 0, 0, 0, 0);
        lives(c, SEA, "loop 99;hear bob;end;", 100, 99, 0, 0, 0, 0);
        lives(c, SEA, "loop 99;end;", 1, 0, 0, 0, 0, 0);
        c.says("when, loop count as one each time they are come to from ahead; end does not");
        lives(c, SEA, "loop 3;loop 2;hear bob;end;end;", 1 + 3 * 3, 6, 0, 0, 0, 0);
        lives(c, SEA, "loop 99;loop 99;end;end;", 100, 0, 0, 0, 0, 0);
        lives(c, SEA, "loop 4;loop 3;loop 2;hear bob;end;end;end;", 1 + 4 * (1 + 3 * 3), 24, 0, 0, 0, 0);
        lives(c, SEA, "loop 5;when heard ann;stop;end;end;", 6, 0, 0, 0, 0, 0);
        lives(c, SEA, "loop 2;hear bob;end;loop 3;hear bob;end;", 7, 5, 0, 0, 0, 0);
        c.says("as often each time that YEARS are LIVED");
        SighChart x = Check.with(SEA);
        Check.years(x, "loop 3;hear ann;stop;end;");
        c.answered(x, "live(0), stopped in its first round", x.live(0), 3);
        c.answered(x, "live(0)", x.live(0), 3);
        Check.years(x, "loop 3;hear ann;end;");
        c.answered(x, "live(0)", x.live(0), 4);
        c.answered(x, "live(0) again", x.live(0), 4);
        c.says("a when is no loop, also where one was that stopped");
        SighChart y = Check.with(SEA);
        Check.years(y, "loop 9;loop 8;loop 7;stop;end;end;end;");
        c.answered(y, "live(0)", y.live(0), 4);
        Check.years(y, "when heard bob;when heard bob;when heard bob;hear bob;end;end;end;");
        c.answered(y, "live(0)", y.live(0), 4);
        c.says("each end is the end of what it stands in");
        lives(c, SEA, "loop 2;when heard ann;stop;end;loop 3;when heard bob;hear bob;end;end;when heard ann;loop 9;end;stop;end;end;hear bob;",
                1 + 2 * (1 + 1 + 3 * 2 + 1) + 1, 7, 0, 0, 0, 0);
    }

    private static void atMostThreeHundred(Check c) {
        String hundred = "loop 99;hear bob;end;";
        c.says("At most 300 STEPS; 1 if a STEP was left to be done, else 0");
        lives(c, SEA, hundred + hundred + "loop 98;hear bob;end;", 299, 295 + 1, 0, 0, 0, 0);
        lives(c, SEA, hundred + hundred + hundred, 300, 297, 0, 0, 0, 0);
        lives(c, SEA, hundred + hundred + "loop 98;hear bob;end;hear bob;", 300, 297, 0, 0, 0, 0);
        lives(c, SEA, hundred + hundred + hundred + "hear bob;", 300, 297, 0, 0, 0, 1);
        lives(c, SEA, hundred + hundred + hundred + "loop 1;end;", 300, 297, 0, 0, 0, 1);
        lives(c, SEA, hundred + hundred + hundred + "when heard ann;end;", 300, 297, 0, 0, 0, 1);
        lives(c, SEA, hundred + hundred + "loop 98;hear bob;end;hear bob;hear ann;", 300, 297, 0, 0, 0, 1);
        SighChart x = lives(c, SEA, hundred + hundred + hundred + "hear ann;", 300, 297, 0, 0, 0, 1);
        c.answered(x, "many(6): the 301st was not done", x.many(6), 2);
        c.says("no STEP is left where but ends are");
        lives(c, SEA, "when heard bob;" + hundred + hundred + "loop 98;hear bob;end;end;", 300, 296, 0, 0, 0, 0);
        lives(c, SEA, "loop 1;when heard bob;" + hundred + hundred + "loop 97;hear bob;end;end;end;", 300, 295, 0, 0, 0, 0);
        c.says("a STEP is left where a round is");
        lives(c, SEA, "loop 99;hear bob;hear bob;hear bob;hear bob;end;", 300, 299, 0, 0, 0, 1);
        lives(c, SEA, "loop 2;loop 99;hear bob;end;loop 99;hear bob;end;loop 98;hear bob;end;end;", 300, 296, 0, 0, 0, 1);
        lives(c, SEA, "loop 99;loop 2;hear bob;end;end;", 298, 198, 0, 0, 0, 0);
        lives(c, SEA, "loop 99;loop 2;hear bob;end;end;stop;", 299, 198, 0, 0, 0, 0);
        lives(c, SEA, "loop 99;loop 2;hear bob;end;end;hear bob;hear bob;", 300, 200, 0, 0, 0, 0);
        lives(c, SEA, "loop 99;loop 2;hear bob;end;end;hear bob;hear bob;hear bob;", 300, 200, 0, 0, 0, 1);
        lives(c, SEA, "loop 99;loop 99;loop 99;hear bob;end;end;end;", 300, 295, 0, 0, 0, 1);
        lives(c, SEA, "loop 3;loop 99;loop 99;end;end;end;", 300, 0, 0, 0, 0, 1);
        lives(c, SEA, "loop 2;loop 99;loop 99;end;end;end;", 201, 0, 0, 0, 0, 0);
        c.says("rounds of a loop that has none within are no STEPS");
        lives(c, SEA, hundred + hundred + "loop 98;hear bob;end;loop 99;end;", 300, 296, 0, 0, 0, 0);
        c.says("the 300 are counted anew each time");
        SighChart again = Check.with(SEA);
        Check.years(again, hundred + hundred + hundred + "hear bob;");
        c.answered(again, "live(0)", again.live(0), 300);
        c.answered(again, "live(0) again", again.live(0), 300);
        c.lived(again, 297, 0, 0, 0, 1);
        c.fraction(again, "mean(0, 20)", again.mean(0, 20), 0, 1);
    }

    private static void stops(Check c) {
        c.says("by the 300 alone, not by stop");
        lives(c, SEA, "stop;", 1, 0, 0, 0, 0, 0);
        lives(c, SEA, "stop;hear bob;hear bob;", 1, 0, 0, 0, 0, 0);
        lives(c, SEA, "loop 99;hear bob;stop;end;hear bob;", 3, 1, 0, 0, 0, 0);
        lives(c, SEA, "loop 99;loop 99;when heard bob;stop;end;end;end;hear bob;", 4, 0, 0, 0, 0, 0);
        lives(c, SEA, "when heard ann;stop;end;hear bob;", 2, 1, 0, 0, 0, 0);
        String most = "loop 99;hear bob;end;loop 99;hear bob;end;loop 98;hear bob;end;";
        lives(c, SEA, most + "stop;", 300, 296, 0, 0, 0, 0);
        lives(c, SEA, most + "stop;hear bob;", 300, 296, 0, 0, 0, 0);
        lives(c, SEA, most + "hear bob;stop;", 300, 297, 0, 0, 0, 1);
    }

    /** The draws as the document tells them, for a sea whose cells, told so far, and travellers are known. */
    private static final class Dice {
        private int s;
        private int came;
        private int missed;
        final List<int[]> tellings = new ArrayList<>();

        Dice(int seed) {
            s = seed;
        }

        int draw(int n) {
            s = (s * 2971 + 11003) % 65536;
            return s / 8 % n;
        }

        void any(int[] sea, int[] lies) {
            int who = draw(lies.length);
            int cell = draw(sea.length);
            int luck = draw(16);
            int kind = sea[cell];
            if (luck < lies[who]) {
                List<Integer> others = new ArrayList<>(List.of(0, 1, 2, 3));
                others.remove(Integer.valueOf(kind));
                kind = others.get(draw(3));
            }
            long ofCell = tellings.stream().filter(t -> t[1] == cell).count();
            if (tellings.size() < 12 && ofCell < 5) {
                tellings.add(new int[] {who, cell, kind});
                came++;
            } else {
                missed++;
            }
        }
    }

    private static void asDrawn(Check c, String duchy, int[] sea, int[] lies, int[][] told, int times, int seed) {
        SighChart x = Check.with(duchy);
        Check.years(x, "any;".repeat(times));
        Dice dice = new Dice(seed);
        for (int[] telling : told) {
            x.tell(telling[0], telling[1], telling[2], 0);
            dice.tellings.add(telling);
        }
        for (int i = 0; i < times; i++) {
            dice.any(sea, lies);
        }
        c.answered(x, "live(" + seed + ")", x.live(seed), times);
        c.answered(x, "lived(0) by " + seed, x.lived(0), dice.missed);
        c.answered(x, "lived(1) by " + seed, x.lived(1), dice.came);
        c.answered(x, "many(3) by " + seed, x.many(3), dice.tellings.size());
        for (int i = 0; i < dice.tellings.size(); i++) {
            int[] telling = dice.tellings.get(i);
            c.telling(x, i, telling[0], telling[1], telling[2], 0);
        }
    }

    private static void drawsOfAny(Check c) {
        c.says("a TRAVELLER by a draw by how many there are, a CELL by a draw by how many there are, a draw by 16 (all three first)");
        int[] sea = {0, 1, 2, 3, 0, 3};
        for (int seed : new int[] {0, 1, 2, 3, 7, 77, 777, 5000, 9998, 9999}) {
            asDrawn(c, "row srb;row isi;traveller a lies 8 heard;", sea, new int[] {8}, new int[0][], 9, seed);
            asDrawn(c, "row srb;row isi;traveller a lies 4;traveller b lies 13;", sea, new int[] {4, 13}, new int[0][], 14, seed);
            asDrawn(c, "row srb;row isi;traveller a lies 1;traveller b lies 15;traveller d;traveller e lies 16 heard;traveller f lies 9;",
                    sea, new int[] {1, 15, 0, 16, 9}, new int[0][], 30, seed);
            asDrawn(c, "row r;traveller a lies 9;traveller b;traveller d lies 16;", new int[] {1}, new int[] {9, 0, 16}, new int[0][], 8, seed);
        }
        int[] wide = new int[36];
        for (int cell = 0; cell < 36; cell++) {
            wide[cell] = cell % 6 % 4;
        }
        for (int seed = 40; seed < 60; seed++) {
            asDrawn(c, "row srbisr;".repeat(6) + "traveller a lies 7;traveller b lies 8;traveller d lies 9;", wide, new int[] {7, 8, 9},
                    new int[0][], 13, seed);
        }
    }

    private static void drawnThoughItCanNotCome(Check c) {
        c.says("by one more draw by 3 (whether the TELLING can come or not)");
        int[] sea = {0, 1, 2};
        int[][] fiveOfOne = {{0, 1, 1}, {0, 1, 1}, {0, 1, 1}, {0, 1, 1}, {0, 1, 1}};
        for (int seed = 100; seed < 130; seed++) {
            asDrawn(c, "row srb;traveller a lies 8;traveller b lies 15;", sea, new int[] {8, 15}, fiveOfOne, 10, seed);
        }
    }

    private static void alwaysOrNeverLying(Check c) {
        c.says("if that is below what he LIES by: one who LIES by 0 never, one who LIES by 16 always");
        int[] sea = {0, 1, 2, 3};
        for (int seed = 200; seed < 220; seed++) {
            asDrawn(c, "row srbi;traveller a;", sea, new int[] {0}, new int[0][], 12, seed);
            asDrawn(c, "row srbi;traveller a lies 16;", sea, new int[] {16}, new int[0][], 12, seed);
            SighChart honest = Check.with("row srbi;traveller a;");
            Check.years(honest, "any;".repeat(12));
            honest.live(seed);
            c.answered(honest, "traveller(0, 3)", honest.traveller(0, 3), 0);
            SighChart liar = Check.with("row srbi;traveller a lies 16;");
            Check.years(liar, "any;".repeat(12));
            liar.live(seed);
            c.answered(liar, "traveller(0, 3)", liar.traveller(0, 3), liar.many(3));
        }
        c.says("by the KIND in the SEA, what he LIES by, and who there is now");
        SighChart x = Check.with("row s;");
        Check.years(x, "any;any;");
        x.come(16);
        x.trust(0, 0);
        x.change(0, 2);
        c.answered(x, "live(3)", x.live(3), 2);
        c.answered(x, "telling(0, 2)", x.telling(0, 2), 2);
        c.answered(x, "telling(1, 2)", x.telling(1, 2), 2);
        x.trust(0, 16);
        c.answered(x, "live(3)", x.live(3), 2);
        c.answered(x, "traveller(0, 3)", x.traveller(0, 3), 2);
    }

    private static void whatWasLived(Check c) {
        c.says("Of live() latest with STATUS 0, whatever came since (5; 8: there was none)");
        SighChart x = Check.with("row ssr;traveller ann;");
        for (int what = 0; what < 5; what++) {
            c.refused(x, "lived(" + what + ")", x.lived(what), 8);
        }
        for (int no : new int[] {MIN, -1, 5, 6, MAX}) {
            c.refused(x, "lived(" + no + "): 5 ahead of 8", x.lived(no), 5);
        }
        x.live(0);
        c.refused(x, "lived(0) behind a live that was refused", x.lived(0), 8);
        x.mark();
        Check.years(x, "forget ann;told ann 0 0 calm;told ann 0 1 calm;sail 0 1;sail 0 2;sail 0 2;");
        x.mean(0, 3);
        c.refused(x, "lived(0) behind a mean", x.lived(0), 8);
        c.answered(x, "live(1)", x.live(1), 6);
        c.lived(x, 1, 2, 3, 2, 0);
        for (int no : new int[] {MIN, -1, 5, 6, MAX}) {
            c.refused(x, "lived(" + no + ")", x.lived(no), 5);
        }
        x.live(-1);
        x.live(10000);
        c.lived(x, 1, 2, 3, 2, 0);
        x.mean(5, 5);
        c.lived(x, 1, 2, 3, 2, 0);
        Check.years(x, "hear ann;");
        c.lived(x, 1, 2, 3, 2, 0);
        x.back();
        c.lived(x, 1, 2, 3, 2, 0);
        Check.duchy(x, "row ss;");
        x.live(0);
        c.lived(x, 1, 2, 3, 2, 0);
        Check.years(x, "");
        x.live(0);
        c.lived(x, 0, 0, 0, 0, 0);
    }

    private static void meanOfSeeds(Check c) {
        c.says("so many seeds (1 to 20) from one on (5: the last above 9,999, too; 8)");
        SighChart x = Check.with(SEA);
        Check.years(x, "told bob 0 0 calm;");
        for (int no : new int[] {MIN, -1, 0, 21, 22, MAX}) {
            c.denied(x, "mean(0, " + no + ")", x.mean(0, no), 5);
        }
        for (int no : new int[] {MIN, -1, -20, 10000, MAX}) {
            c.denied(x, "mean(" + no + ", 1)", x.mean(no, 1), 5);
            c.denied(x, "mean(" + no + ", 20)", x.mean(no, 20), 5);
        }
        for (int many = 1; many <= 20; many++) {
            c.fraction(x, "mean(0, " + many + ")", x.mean(0, many), 1, 1);
            c.fraction(x, "mean of the last " + many, x.mean(10000 - many, many), 1, 1);
            c.denied(x, "mean of one more than the last " + many, x.mean(10001 - many, many), 5);
        }
        c.says("the mean of how many CELLS are DRAWN as they are in the SEA behind the YEARS");
        String sea = "row srb;row isi;traveller a lies 5 heard;traveller b lies 2 heard;traveller d heard;";
        for (int many : new int[] {1, 2, 3, 7, 20}) {
            long right = 0;
            for (int seed = 300; seed < 300 + many; seed++) {
                SighChart one = Check.with(sea);
                Check.years(one, "any;".repeat(9));
                one.live(seed);
                right += one.many(8);
            }
            SighChart y = Check.with(sea);
            Check.years(y, "any;".repeat(9));
            c.done(y, "mean(300, " + many + ")", y.mean(300, many));
            c.due("top() times how many, of " + many, y.top() * many, right * y.bottom());
            boolean divides = false;
            for (int by = 2; by <= 20; by++) {
                divides |= y.top() % by == 0 && y.bottom() % by == 0;
            }
            c.due("a common divisor", divides, false);
        }
    }

    private static void allStaysByAMean(Check c) {
        c.says("mean: all stays as it is");
        SighChart x = Check.with(SEA + "told ann 0 0 calm missed 3;told bob 0 1 fear missed 4;");
        Check.years(x, "hear ann;forget bob;any;any;any;told ann 1 1 sigh;sail 1 1;");
        c.done(x, "mean(0, 20)", x.mean(0, 20));
        c.many(x, 2, 3, 2, 2, 4, 0, 2, 5, 0);
        c.telling(x, 0, 0, 0, 0, 3);
        c.telling(x, 1, 1, 1, 1, 4);
        c.refused(x, "telling(2, 0)", x.telling(2, 0), 2);
        c.refused(x, "lived(0)", x.lived(0), 8);
        c.says("each seed from the same on");
        SighChart y = Check.with("row s;traveller a heard;");
        Check.years(y, "told a 0 0 calm;when known = 1;told a 0 0 fear;told a 0 0 fear;end;");
        c.fraction(y, "mean(0, 20)", y.mean(0, 20), 0, 1);
        SighChart z = Check.with("row s;traveller a;");
        Check.years(z, "when heard a;told a 0 0 fear;told a 0 0 fear;end;hear a;told a 0 0 calm;");
        c.fraction(z, "mean(0, 20)", z.mean(0, 20), 1, 1);
        c.answered(z, "live(0)", z.live(0), 3);
    }
}
