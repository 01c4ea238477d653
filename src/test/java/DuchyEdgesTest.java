/** The bounds of the text of a DUCHY (promise 10), a sentence of the document at a time. */
final class DuchyEdgesTest {
    private static final String[] WORDS = ("row odds harbour traveller lies heard told missed calm fear tears sigh hear forget sail any "
            + "when drawn white known loop end stop").split(" ");
    private static final String[] FEELINGS = {"calm", "fear", "tears", "sigh"};
    private static final String SEA = "row srb;row iss;";
    private static final String TWO = SEA + "traveller ann;traveller bob lies 3 heard;";
    private static final String FIVE = "traveller a;traveller b;traveller c;traveller d;traveller e;";
    private static final String SIX_ROWS = "row s;".repeat(6);

    public static void main(String[] args) {
        Check c = new Check("DuchyEdgesTest");
        parts(c);
        cells(c);
        rows(c);
        odds(c);
        harbour(c);
        names(c);
        oneName(c);
        travellers(c);
        tellings(c);
        tellersToldAhead(c);
        toldAlready(c);
        theFirstAlongTheText(c);
        theLeastKind(c);
        whatCanNotStandThere(c);
        c.end();
    }

    private static void parts(Check c) {
        c.says("DUCHY: {PART}: any number of times, none at all, too");
        c.sea("", 0);
        c.sea("row s;", 1);
        c.sea("odds 1;", 0);
        c.sea("traveller a;", 0);
        c.sea("traveller a;odds 3;row s;traveller b;row s;told b 1 0 calm;traveller d;harbour 1 0;told d 0 0 sigh;", 2);
        c.says("PART: row, odds, harbour, traveller, told");
        for (String word : WORDS) {
            boolean begins = "row odds harbour traveller told".contains(word);
            if (begins) {
                c.faultyDuchy(word, "", 2);
            } else {
                c.faultyDuchy("row s;", word + ";", 2);
            }
        }
        c.faultyDuchy("row s;", ";", 2);
        c.faultyDuchy("row s;", "<;", 2);
        c.faultyDuchy("row s;", "7;", 2);
        c.faultyDuchy("row s;", "ann;", 2);
        c.faultyDuchy("row s;", "rows s;", 2);
        c.faultyDuchy("row s;", "ro s;", 2);
        c.says("each PART ends with ;");
        for (String no : new String[] {"<", ">", "=", "0", "x", "row"}) {
            c.faultyDuchy("row s ", no + ";", 2);
            c.faultyDuchy("odds 3 ", no + ";", 2);
            c.faultyDuchy("row s;harbour 0 0 ", no + ";", 2);
            c.faultyDuchy("traveller a ", no + ";", 2);
            c.faultyDuchy("traveller a lies 3 ", no + ";", 2);
            c.faultyDuchy("traveller a heard ", no + ";", 2);
            c.faultyDuchy("row s;traveller a;told a 0 0 calm ", no + ";", 2);
            c.faultyDuchy("row s;traveller a;told a 0 0 calm missed 3 ", no + ";", 2);
        }
    }

    private static void cells(Check c) {
        c.says("CELLS: a WORD of 1 to 6 letters");
        for (int letters = 1; letters <= 6; letters++) {
            SighChart x = c.sea("row " + "srbisr".substring(0, letters) + ";", letters);
            c.answered(x, "many(0)", x.many(0), 1);
            c.answered(x, "many(1)", x.many(1), letters);
        }
        c.faultyDuchy("row ", "sssssss;", 4);
        c.faultyDuchy("row ", "ssssssss;", 4);
        c.faultyDuchy("row ", ";", 2);
        c.faultyDuchy("row ", "3;", 2);
        c.faultyDuchy("row ", "<;", 2);
        c.says("each s, r, b or i: s open (0), r rock (1), b bay (2), i island (3)");
        for (char letter = 'a'; letter <= 'z'; letter++) {
            int kind = "srbi".indexOf(letter);
            if (kind < 0) {
                c.faultyDuchy("row ", letter + ";", 4);
                c.faultyDuchy("row ", "sssss" + letter + ";", 4);
                c.faultyDuchy("row ", letter + "ss;", 4);
            } else {
                SighChart x = c.sea("row ss" + letter + ";", 3);
                c.answered(x, "cell(2, 0)", x.cell(2, 0), kind);
            }
        }
        c.says("a WORD behind row that is not such CELLS");
        for (String word : WORDS) {
            c.faultyDuchy("row ", word + ";", 4);
        }
        c.says("all as long as the first one");
        for (int first = 1; first <= 6; first++) {
            for (int second = 1; second <= 7; second++) {
                String ahead = "row " + "s".repeat(first) + ";row ";
                if (first == second) {
                    c.sea(ahead + "b".repeat(second) + ";", 2 * first);
                } else {
                    c.faultyDuchy(ahead, "b".repeat(second) + ";", 4);
                }
            }
        }
        c.faultyDuchy("row ss;row ss;row ", "s;", 4);
        c.says("CELLS are numbered row by row, as they are read");
        SighChart x = c.sea("row sr;odds 3;row bi;row ri;", 6);
        long[] kinds = {0, 1, 2, 3, 1, 3};
        for (int cell = 0; cell < 6; cell++) {
            c.answered(x, "cell(" + cell + ", 0)", x.cell(cell, 0), kinds[cell]);
        }
        c.refused(x, "cell(6, 0)", x.cell(6, 0), 2);
    }

    private static void rows(Check c) {
        c.says("The SEA: ROWS of CELLS, at most 6");
        for (int rows = 1; rows <= 6; rows++) {
            SighChart x = c.sea("row ssssss;".repeat(rows), 6 * rows);
            c.answered(x, "many(0)", x.many(0), rows);
            c.answered(x, "many(1)", x.many(1), 6);
            c.answered(x, "the last cell", x.cell(6 * rows - 1, 0), 0);
            c.refused(x, "behind the last cell", x.cell(6 * rows, 0), 2);
        }
        c.says("6 a seventh row (at that WORD)");
        c.faultyDuchy(SIX_ROWS, "row s;", 6);
        c.faultyDuchy(SIX_ROWS, "row", 6);
        c.faultyDuchy(SIX_ROWS, "row sssssss;", 6);
        c.faultyDuchy(SIX_ROWS + "odds 3;traveller a; ", "row 3;", 6);
    }

    private static void odds(Check c) {
        c.says("ODDS (0 to 16; 4 without)");
        SighChart without = c.sea("row s;", 1);
        c.answered(without, "many(4)", without.many(4), 4);
        for (int odds = 0; odds <= 16; odds++) {
            SighChart x = c.sea("odds " + odds + ";", 0);
            c.answered(x, "many(4)", x.many(4), odds);
        }
        for (int odds : new int[] {17, 18, 32, 100, 256, 9999}) {
            c.faultyDuchy("odds ", odds + ";", 4);
        }
        c.faultyDuchy("odds ", ";", 2);
        c.faultyDuchy("odds ", "ann;", 2);
        c.faultyDuchy("odds ", "=3;", 2);
        c.says("a DUCHY without odds has 4, whatever the one ahead of it had");
        SighChart x = c.sea("odds 9;", 0);
        Check.duchy(x, "row s;");
        c.answered(x, "many(4)", x.many(4), 4);
    }

    private static void harbour(Check c) {
        c.says("The HARBOUR: a row, a column of it (0 and 0 without)");
        SighChart without = c.sea(SEA, 6);
        c.answered(without, "many(5)", without.many(5), 0);
        for (int row = 0; row < 4; row++) {
            for (int column = 0; column < 5; column++) {
                String ahead = SEA + "harbour ";
                if (row > 1) {
                    c.faultyDuchy(ahead, row + " " + column + ";", 4);
                } else if (column > 2) {
                    c.faultyDuchy(ahead + row + " ", column + ";", 4);
                } else {
                    SighChart x = c.sea(ahead + row + " " + column + ";", 6);
                    c.answered(x, "many(5)", x.many(5), 3 * row + column);
                }
            }
        }
        SighChart last = c.sea("row ssssss;".repeat(6) + "harbour 5 5;", 36);
        c.answered(last, "many(5)", last.many(5), 35);
        c.faultyDuchy("row ssssss;".repeat(6) + "harbour ", "6 5;", 4);
        c.faultyDuchy("row ssssss;".repeat(6) + "harbour 5 ", "6;", 4);
        c.says("told behind the ROWS");
        c.faultyDuchy("harbour ", "0 0;", 4);
        c.faultyDuchy("harbour ", "0 0;row s;", 4);
        c.faultyDuchy("row s;harbour ", "1 0;row s;", 4);
        c.says("harbour NUMBER NUMBER");
        c.faultyDuchy(SEA + "harbour ", ";", 2);
        c.faultyDuchy(SEA + "harbour ", "ann 0;", 2);
        c.faultyDuchy(SEA + "harbour 0 ", ";", 2);
        c.faultyDuchy(SEA + "harbour 0 ", "ann;", 2);
        c.faultyDuchy(SEA + "harbour 0 0 ", "0;", 2);
    }

    private static void names(Check c) {
        c.says("NAME: a WORD of 1 to 8 letters");
        for (int letters = 1; letters <= 12; letters++) {
            String name = "xbcdefghijkl".substring(0, letters);
            if (letters <= 8) {
                SighChart x = c.sea("row s;traveller " + name + ";told " + name + " 0 0 calm;", 1);
                c.answered(x, "many(2)", x.many(2), 1);
                c.answered(x, "telling(0, 0)", x.telling(0, 0), 0);
            } else {
                c.faultyDuchy("traveller ", name + ";", 2);
                c.faultyDuchy("row s;traveller xbcdefgh;told ", name + " 0 0 calm;", 2);
            }
        }
        c.says("that is none of row, odds, harbour ..");
        for (String word : WORDS) {
            c.faultyDuchy("traveller ", word + ";", 2);
            c.faultyDuchy(TWO + "told ", word + " 0 0 calm;", 2);
            if (word.length() < 8) {
                c.sea("row s;traveller " + word + "s;told " + word + "s 0 0 calm;", 1);
                c.sea("row s;traveller o" + word + ";told o" + word + " 0 0 calm;", 1);
            }
            String shorter = word.substring(0, word.length() - 1);
            if (!shorter.equals("hear")) {
                c.sea("row s;traveller " + shorter + ";told " + shorter + " 0 0 calm;", 1);
            }
        }
        c.sea("traveller srbi;traveller z;traveller zzzzzzzz;traveller aaaaaaaa;traveller a;", 0);
        c.faultyDuchy("traveller ", "3;", 2);
        c.faultyDuchy("traveller ", ";", 2);
        c.faultyDuchy("traveller ", "=;", 2);
        c.faultyDuchy(TWO + "told ", "3 0 0 calm;", 2);
        c.faultyDuchy(TWO + "told ", ";", 2);
    }

    private static void oneName(Check c) {
        c.says("No two TRAVELLERS have one NAME: 3 a new NAME that is taken");
        c.faultyDuchy("traveller ann;traveller ", "ann;", 3);
        c.faultyDuchy("traveller ann;traveller bob;traveller ", "ann;", 3);
        c.faultyDuchy("traveller ann;traveller bob;traveller d;traveller e;traveller ", "e lies 17;", 3);
        c.faultyDuchy("traveller abcdefgh;traveller ", "abcdefgh;", 3);
        String[][] unlike = {{"a", "aa"}, {"ab", "ba"}, {"abcdefgh", "abcdefgi"}, {"abcdefgh", "abcdefg"}, {"abcdefgh", "bbcdefgh"},
            {"z", "zz"}, {"az", "b"}, {"aaaaaaaa", "aaaaaaa"}};
        for (String[] pair : unlike) {
            SighChart x = c.sea("row s;traveller " + pair[0] + ";traveller " + pair[1] + ";told " + pair[1] + " 0 0 calm;", 1);
            c.answered(x, "telling(0, 0)", x.telling(0, 0), 1);
        }
        c.says("a NAME is taken in its own DUCHY alone");
        SighChart x = c.sea("traveller ann;", 0);
        c.answered(x, "the same again", Check.duchy(x, "traveller ann;"), 0);
        c.answered(x, "many(2)", x.many(2), 1);
    }

    private static void travellers(Check c) {
        c.says("TRAVELLERS, at most 5");
        SighChart five = c.sea(FIVE, 0);
        c.answered(five, "many(2)", five.many(2), 5);
        c.answered(five, "traveller(4, 0)", five.traveller(4, 0), 0);
        c.refused(five, "traveller(5, 0)", five.traveller(5, 0), 2);
        c.says("6 a sixth traveller (at that WORD)");
        c.faultyDuchy(FIVE, "traveller f;", 6);
        c.faultyDuchy(FIVE, "traveller", 6);
        c.faultyDuchy(FIVE, "traveller a;", 6);
        c.says("they LIE by sixteenths (0 to 16; 0 without)");
        for (int lies = 0; lies <= 16; lies++) {
            SighChart x = c.sea("traveller a lies " + lies + ";", 0);
            c.answered(x, "traveller(0, 0)", x.traveller(0, 0), lies);
            c.answered(x, "traveller(0, 1)", x.traveller(0, 1), 0);
        }
        for (int lies : new int[] {17, 32, 9999}) {
            c.faultyDuchy("traveller a lies ", lies + " heard;", 4);
        }
        c.faultyDuchy("traveller a lies ", "heard;", 2);
        c.faultyDuchy("traveller a lies ", ";", 2);
        c.says("HEARD or not");
        SighChart heard = c.sea("traveller a;traveller b heard;traveller c lies 2;traveller d lies 3 heard;traveller e heard;", 0);
        c.answered(heard, "many(6)", heard.many(6), 2 + 8 + 16);
        for (int who = 0; who < 5; who++) {
            c.answered(heard, "traveller(" + who + ", 1)", heard.traveller(who, 1), who == 0 || who == 2 ? 0 : 1);
        }
        c.says("traveller NAME [lies NUMBER] [heard]: in this order, each once");
        c.faultyDuchy("traveller a heard ", "lies 3;", 2);
        c.faultyDuchy("traveller a heard ", "heard;", 2);
        c.faultyDuchy("traveller a lies 3 ", "lies 3;", 2);
        c.faultyDuchy("traveller a ", "b;", 2);
        c.faultyDuchy("traveller a ", "3;", 2);
        c.faultyDuchy("traveller a ", "told;", 2);
        c.faultyDuchy("traveller ", "heard;", 2);
        c.faultyDuchy("traveller ", "lies 3;", 2);
    }

    private static String told(String who, int cell, int times) {
        return ("told " + who + " 0 " + cell + " calm;").repeat(times);
    }

    private static void tellings(Check c) {
        String sea = "row ssss;traveller a;traveller b;";
        String twelve = told("a", 0, 5) + told("b", 1, 5) + told("a", 2, 2);
        c.says("TELLINGS, at most 12");
        SighChart x = c.sea(sea + twelve, 4);
        c.answered(x, "many(3)", x.many(3), 12);
        c.answered(x, "telling(11, 1)", x.telling(11, 1), 2);
        c.refused(x, "telling(12, 1)", x.telling(12, 1), 2);
        c.says("6 a 13th telling (at that WORD)");
        c.faultyDuchy(sea + twelve, "told b 0 3 calm;", 6);
        c.faultyDuchy(sea + twelve, "told", 6);
        c.faultyDuchy(sea + twelve, "told a 0 0 calm;", 6);
        c.says("at most 5 of one CELL: a sixth TELLING of a CELL (at its second NUMBER)");
        c.sea(sea + told("a", 3, 5), 4);
        c.sea(sea + told("a", 3, 3) + told("b", 3, 2), 4);
        c.faultyDuchy(sea + told("a", 3, 5) + "told a 0 ", "3 calm;", 5);
        c.faultyDuchy(sea + told("a", 3, 3) + told("b", 3, 2) + "told b 0 ", "3 calm;", 5);
        c.faultyDuchy(sea + told("a", 3, 5) + "told a 0 ", "3", 5);
        c.faultyDuchy(sea + told("a", 3, 5) + "told a 0 ", "3 white;", 5);
        c.faultyDuchy(sea + told("a", 3, 5) + told("b", 2, 5) + told("a", 1, 1) + "told a 0 ", "2 calm;", 5);
        c.says("a row, a column");
        for (int row = 0; row < 3; row++) {
            for (int column = 0; column < 4; column++) {
                if (row > 1) {
                    c.faultyDuchy(TWO + "told ann ", row + " " + column + " calm;", 4);
                } else if (column > 2) {
                    c.faultyDuchy(TWO + "told ann " + row + " ", column + " calm;", 4);
                } else {
                    SighChart y = c.sea(TWO + "told ann " + row + " " + column + " calm;", 6);
                    c.answered(y, "telling(0, 1)", y.telling(0, 1), 3 * row + column);
                }
            }
        }
        c.faultyDuchy("traveller a;told a ", "0 0 calm;", 4);
        c.says("the KIND as he felt: calm 0, fear 1, tears 2, sigh 3");
        for (int kind = 0; kind < 4; kind++) {
            SighChart y = c.sea(TWO + "told bob 1 2 " + FEELINGS[kind] + ";", 6);
            c.answered(y, "telling(0, 0)", y.telling(0, 0), 1);
            c.answered(y, "telling(0, 2)", y.telling(0, 2), kind);
            c.answered(y, "telling(0, 3)", y.telling(0, 3), 0);
        }
        c.says("by how much it is MISSED (0 to 9; 0 without)");
        for (int missed = 0; missed <= 9; missed++) {
            SighChart y = c.sea(TWO + "told ann 0 0 tears missed " + missed + ";", 6);
            c.answered(y, "telling(0, 3)", y.telling(0, 3), missed);
        }
        c.faultyDuchy(TWO + "told ann 0 0 tears missed ", "10;", 4);
        c.faultyDuchy(TWO + "told ann 0 0 tears missed ", "9999;", 4);
    }

    private static void tellersToldAhead(Check c) {
        c.says("a NAME that is no TRAVELLER told ahead");
        c.faultyDuchy("row s;told ", "ann 0 0 calm;", 3);
        c.faultyDuchy(TWO + "told ", "eve 0 0 calm;", 3);
        c.faultyDuchy(TWO + "told ", "an 0 0 calm;", 3);
        c.faultyDuchy(TWO + "told ", "anna 0 0 calm;", 3);
        c.faultyDuchy(TWO + "told ", "abcdefgh 0 0 calm;", 3);
        c.faultyDuchy("row s;told ", "ann 0 0 calm;traveller ann;", 3);
        c.says("no TRAVELLER of the DUCHY ahead");
        SighChart x = c.sea("row s;traveller ann;", 1);
        c.fault(x, "told ann", Check.duchy(x, "row s;told ann 0 0 calm;"), 3, 11);
    }

    private static void toldAlready(Check c) {
        c.says("5 odds told already (at that WORD)");
        c.faultyDuchy("odds 3;", "odds 3;", 5);
        c.faultyDuchy("odds 3;row s;", "odds", 5);
        c.faultyDuchy("odds 4;", "odds 17;", 5);
        c.says("5 harbour told already (at that WORD)");
        c.faultyDuchy(SEA + "harbour 0 0;", "harbour 0 0;", 5);
        c.faultyDuchy(SEA + "harbour 1 2;odds 3;", "harbour", 5);
        c.faultyDuchy(SEA + "harbour 1 2;", "harbour 7 7;", 5);
        c.says("5 a row behind a harbour (at that WORD)");
        c.faultyDuchy(SEA + "harbour 0 0;", "row sss;", 5);
        c.faultyDuchy(SEA + "harbour 0 0;traveller a;odds 3;", "row", 5);
        c.says("5 a row behind a telling (at that WORD)");
        c.faultyDuchy(TWO + "told ann 0 0 calm;", "row sss;", 5);
        c.faultyDuchy(TWO + "told ann 0 0 calm;odds 3;", "row", 5);
        c.says("a row behind odds, behind a traveller can be");
        c.sea("odds 3;traveller a;row ss;", 2);
        c.says("a harbour behind a telling, a traveller behind both can be");
        c.sea(TWO + "told ann 0 0 calm;harbour 1 1;traveller eve;told eve 0 0 calm;", 6);
    }

    private static void theFirstAlongTheText(Check c) {
        c.says("FAULTS, the first along the text");
        c.faultyDuchy("odds ", "17;row x;", 4);
        c.faultyDuchy("row ", "x;odds 17;", 4);
        c.faultyDuchy("row s;odds 17", 4, 11);
        c.faultyDuchy("odds 3;", "odds 17;", 5);
        c.faultyDuchy("odds 3;row s ", "odds 17;", 2);
        c.faultyDuchy("odds 3;row s ", "?odds 17;", 1);
        c.faultyDuchy("traveller a;traveller ", "a;?", 3);
        c.faultyDuchy(SIX_ROWS, "row ?", 6);
        c.faultyDuchy("row s;harbour ", "1 12345;", 4);
        c.faultyDuchy("row s;harbour 0 ", "12345;", 1);
        c.faultyDuchy("row s;traveller ann;told ", "bob 7 7 white;", 3);
        c.faultyDuchy("row s;traveller ann;told ann ", "7 7 white;", 4);
        c.faultyDuchy("row s;traveller ann;told ann 0 ", "7 white;", 4);
        c.faultyDuchy("row s;traveller ann;told ann 0 0 ", "white;", 2);
        c.faultyDuchy("row s;traveller ann;told ann 0 0 calm missed ", "10", 4);
        c.faultyDuchy("row s;traveller ann;told ann 0 0 calm missed 9", "", 2);
    }

    private static void theLeastKind(Check c) {
        c.says("of one TOKEN the least kind");
        // 5 and 6: a seventh row that stands behind a harbour, or a telling.
        c.faultyDuchy(SIX_ROWS + "harbour 0 0;", "row s;", 5);
        c.faultyDuchy(SIX_ROWS + "traveller a;told a 0 0 calm;", "row s;", 5);
        // 4 and 5: the second number of a telling that can't be.
        c.faultyDuchy("row s;traveller a;" + told("a", 0, 5) + "told a 0 ", "1 calm;", 4);
        // 2 and 3: a word that is no name; 2 and 3: a word of nine letters that is no traveller.
        c.faultyDuchy("row s;traveller a;told ", "heard 0 0 calm;", 2);
        c.faultyDuchy("row s;traveller a;told ", "abcdefghi 0 0 calm;", 2);
        // 1 and 2
        c.faultyDuchy("row s;", "?;", 1);
        c.faultyDuchy("row s", "?", 1);
        c.faultyDuchy("row ", "S;", 1);
        c.faultyDuchy("traveller ", "Ann;", 1);
        c.faultyDuchy("traveller ann ", "!;", 1);
        c.faultyDuchy("traveller ann lies ", "-1;", 1);
        c.faultyDuchy("traveller ann lies 3 ", ",heard;", 1);
        c.faultyDuchy(TWO + "told ann 0 0 ", "Calm;", 1);
        c.faultyDuchy(TWO + "told ann 0 0 calm ", ":", 1);
        c.faultyDuchy(TWO + "told ann 0 0 calm missed ", "+1", 1);
        c.faultyDuchy("row s;harbour 0 ", ".0;", 1);
        c.faultyDuchy("odds ", "\t3;", 1);
        // 1 and 4
        c.faultyDuchy("odds ", "99999;", 1);
    }

    private static void whatCanNotStandThere(Check c) {
        c.says("2 it can't stand there");
        c.faultyDuchy(TWO + "told ann ", "ann 0 calm;", 2);
        c.faultyDuchy(TWO + "told ann ", "; 0 calm;", 2);
        c.faultyDuchy(TWO + "told ann 0 ", "calm;", 2);
        c.faultyDuchy(TWO + "told ann 0 0 ", ";", 2);
        c.faultyDuchy(TWO + "told ann 0 0 ", "0;", 2);
        for (String word : WORDS) {
            if (!"calm fear tears sigh".contains(word)) {
                c.faultyDuchy(TWO + "told ann 0 0 ", word + ";", 2);
            }
            if (!word.equals("missed")) {
                c.faultyDuchy(TWO + "told ann 0 0 calm ", word + " 3;", 2);
            }
            if (!word.equals("lies") && !word.equals("heard")) {
                c.faultyDuchy("traveller ann ", word + " 3;", 2);
            }
        }
        c.faultyDuchy(TWO + "told ann 0 0 ", "ann;", 2);
        c.faultyDuchy(TWO + "told ann 0 0 calm missed ", "calm;", 2);
        c.faultyDuchy(TWO + "told ann 0 0 calm missed ", ";", 2);
        c.faultyDuchy(TWO + "told ann 0 0 calm missed 3 ", "missed 3;", 2);
        c.says("2 a WORD of 9 letters and more where a NAME must stand");
        c.faultyDuchy("traveller ", "abcdefghi;", 2);
        c.faultyDuchy("traveller ", "a".repeat(880), 2);
        c.faultyDuchy(TWO + "told ", "annannann 0 0 calm;", 2);
    }
}
