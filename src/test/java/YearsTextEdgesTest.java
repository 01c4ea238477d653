/** The bounds of the text of YEARS (promise 11), a sentence of the document at a time. */
final class YearsTextEdgesTest {
    private static final String[] WORDS = ("row odds harbour traveller lies heard told missed calm fear tears sigh hear forget sail any "
            + "when drawn white known loop end stop").split(" ");
    private static final String[] FEELINGS = {"calm", "fear", "tears", "sigh"};
    private static final String TWO = "row srb;row iss;traveller ann;traveller bob lies 3 heard;";

    public static void main(String[] args) {
        Check c = new Check("YearsTextEdgesTest");
        steps(c);
        tests(c);
        ends(c);
        names(c);
        cells(c);
        feelings(c);
        rounds(c);
        known(c);
        atMostThirty(c);
        withinThree(c);
        theFirstAlongTheText(c);
        theLeastKind(c);
        bySeaAndTravellersNow(c);
        c.end();
    }

    private static void taken(Check c, String text, int steps) {
        c.years(TWO, text, steps);
    }

    private static void faulty(Check c, String ahead, String rest, int kind) {
        c.faultyYears(TWO, ahead, rest, kind);
    }

    private static void steps(Check c) {
        c.says("YEARS: {STEP}: any number of times, none at all, too");
        taken(c, "", 0);
        taken(c, " \n", 0);
        c.says("STEP: hear, forget, told, sail, any, when, loop, stop");
        taken(c, "hear ann;", 1);
        taken(c, "forget bob;", 1);
        taken(c, "told bob 1 2 tears;", 1);
        taken(c, "sail 1 0;", 1);
        taken(c, "any;", 1);
        taken(c, "stop;", 1);
        taken(c, "when heard ann;end;", 1);
        taken(c, "loop 3;end;", 1);
        for (String word : WORDS) {
            boolean begins = "hear forget told sail any when loop stop".contains(word);
            if (begins) {
                faulty(c, word, "", 2);
                faulty(c, word + " ", "<", 2);
            } else {
                faulty(c, "", word + ";", 2);
                faulty(c, "any;", word + ";", 2);
                faulty(c, "loop 3;", word.equals("end") ? "" : word + ";", 2);
            }
        }
        for (String no : new String[] {";", "<", "3", "ann", "anny;", "an;"}) {
            faulty(c, "", no, 2);
            faulty(c, "any;", no, 2);
        }
        c.says("each STEP ends with ;");
        for (String no : new String[] {"<", "0", "x", "any;", "end;"}) {
            faulty(c, "hear ann ", no, 2);
            faulty(c, "forget ann ", no, 2);
            faulty(c, "told ann 0 0 calm ", no, 2);
            faulty(c, "sail 0 0 ", no, 2);
            faulty(c, "any ", no, 2);
            faulty(c, "stop ", no, 2);
            faulty(c, "loop 3 ", no, 2);
            faulty(c, "loop 3;end ", no, 2);
            faulty(c, "when heard ann ", no, 2);
            faulty(c, "when white 0 0 ", no, 2);
            faulty(c, "when drawn 0 0 calm ", no, 2);
            faulty(c, "when known < 3 ", no, 2);
        }
        faulty(c, "told ann 0 0 calm ", "missed 3;", 2);
    }

    private static void tests(Check c) {
        c.says("TEST: heard NAME, or white NUMBER NUMBER, or drawn NUMBER NUMBER FEELING, or known COMPARES NUMBER");
        taken(c, "when heard bob;end;", 1);
        taken(c, "when white 1 1;end;", 1);
        taken(c, "when drawn 1 1 sigh;end;", 1);
        for (String sign : new String[] {"<", ">", "="}) {
            taken(c, "when known " + sign + " 3;end;", 1);
        }
        for (String word : WORDS) {
            if (!"heard white drawn known".contains(word)) {
                faulty(c, "when ", word + ";end;", 2);
            }
        }
        faulty(c, "when ", "hear ann;end;", 2);
        for (String no : new String[] {";", "<", "3", "ann", "knowns"}) {
            faulty(c, "when ", no + ";end;", 2);
        }
        faulty(c, "when heard ", "3;end;", 2);
        faulty(c, "when heard ", ";end;", 2);
        faulty(c, "when white ", "ann;end;", 2);
        faulty(c, "when white 0 ", ";end;", 2);
        faulty(c, "when drawn ", "calm;end;", 2);
        faulty(c, "when drawn 0 ", "calm;end;", 2);
        faulty(c, "when drawn 0 0 ", ";end;", 2);
        faulty(c, "when drawn 0 0 ", "white;end;", 2);
        c.says("COMPARES: < or > or =");
        for (String no : new String[] {";", "3", "ann", "calm", "any", "59", "60", "61", "62"}) {
            faulty(c, "when known ", no + " 3;end;", 2);
        }
        faulty(c, "when known < ", "< 3;end;", 2);
        faulty(c, "when known > ", "ann;end;", 2);
        faulty(c, "when known = ", ";end;", 2);
    }

    private static void ends(Check c) {
        c.says("an end without a beginning; the text's end ahead of an end: 2");
        faulty(c, "", "end;", 2);
        faulty(c, "any;", "end;", 2);
        faulty(c, "loop 3;end;", "end;", 2);
        faulty(c, "when heard ann;loop 3;end;end;", "end;", 2);
        faulty(c, "loop 3;", "", 2);
        faulty(c, "when heard ann;any; ", "", 2);
        faulty(c, "loop 3;loop 4;end;", "", 2);
        faulty(c, "when heard ann;loop 4;end;stop;", "", 2);
        faulty(c, "loop 3;end", "", 2);
        faulty(c, "loop 3;end ", "end;", 2);
        taken(c, "loop 3;end;loop 3;end;when heard ann;end;", 3);
        taken(c, "loop 3;loop 4;any;end;when heard ann;end;end;any;", 5);
    }

    private static void names(Check c) {
        c.says("3 a NAME that is no TRAVELLER");
        for (String ahead : new String[] {"hear ", "forget ", "told ", "when heard "}) {
            String behind = ahead.equals("told ") ? " 0 0 calm;" : ahead.equals("when heard ") ? ";end;" : ";";
            taken(c, ahead + "ann" + behind, 1);
            taken(c, ahead + "bob" + behind, 1);
            for (String no : new String[] {"eve", "an", "anna", "bo", "a", "abcdefgh"}) {
                faulty(c, ahead, no + behind, 3);
            }
            c.says("2: what is no NAME at all");
            for (String word : WORDS) {
                faulty(c, ahead, word + behind, 2);
            }
            for (String no : new String[] {"abcdefghi", "annannannann", "a".repeat(100), "3", "=", ";"}) {
                faulty(c, ahead, no + behind, 2);
            }
            c.says("3 a NAME that is no TRAVELLER");
        }
    }

    private static void cells(Check c) {
        c.says("told, sail, white, drawn: a row, a column of the SEA; 4 a NUMBER that can't be");
        for (String ahead : new String[] {"told ann ", "sail ", "when white ", "when drawn "}) {
            String feeling = ahead.equals("told ann ") || ahead.equals("when drawn ") ? " calm" : "";
            String behind = feeling + (ahead.startsWith("when") ? ";end;" : ";");
            for (int row = 0; row < 3; row++) {
                for (int column = 0; column < 4; column++) {
                    if (row > 1) {
                        faulty(c, ahead, row + " " + column + behind, 4);
                    } else if (column > 2) {
                        faulty(c, ahead + row + " ", column + behind, 4);
                    } else {
                        taken(c, ahead + row + " " + column + behind, 1);
                    }
                }
            }
            faulty(c, ahead, "9999 0" + behind, 4);
            faulty(c, ahead + "0 ", "9999" + behind, 4);
            faulty(c, ahead, "ann 0" + behind, 2);
            faulty(c, ahead + "0 ", "=" + behind, 2);
        }
    }

    private static void feelings(Check c) {
        c.says("FEELING: calm or fear or tears or sigh");
        for (String feeling : FEELINGS) {
            taken(c, "told ann 0 0 " + feeling + ";", 1);
            taken(c, "when drawn 0 0 " + feeling + ";end;", 1);
        }
        for (String word : WORDS) {
            if (!"calm fear tears sigh".contains(word)) {
                faulty(c, "told ann 0 0 ", word + ";", 2);
                faulty(c, "when drawn 0 0 ", word + ";end;", 2);
            }
        }
        for (String no : new String[] {"calms", "tear", "0", ";", "<", "ann"}) {
            faulty(c, "told ann 0 0 ", no + ";", 2);
            faulty(c, "when drawn 0 0 ", no + ";end;", 2);
        }
    }

    private static void rounds(Check c) {
        c.says("loop n (1 to 99)");
        for (int n : new int[] {1, 2, 98, 99}) {
            taken(c, "loop " + n + ";end;", 1);
        }
        taken(c, "loop 0099;end;", 1);
        for (String n : new String[] {"0", "100", "0000", "101", "999", "9999"}) {
            faulty(c, "loop ", n + ";end;", 4);
        }
        for (String no : new String[] {";", "ann", "<3", "end"}) {
            faulty(c, "loop ", no + ";end;", 2);
        }
    }

    private static void known(Check c) {
        c.says("known: against 0 to 36");
        for (int n = 0; n <= 36; n++) {
            taken(c, "when known > " + n + ";end;", 1);
        }
        for (String n : new String[] {"37", "38", "100", "9999"}) {
            for (String sign : new String[] {"<", ">", "="}) {
                faulty(c, "when known " + sign + " ", n + ";end;", 4);
            }
        }
    }

    private static void atMostThirty(Check c) {
        c.says("6 a 31st STEP (at its WORD; end is none)");
        taken(c, "any;".repeat(29), 29);
        taken(c, "any;".repeat(30), 30);
        String[] all = {"hear ann;", "forget ann;", "told ann 0 0 calm;", "sail 0 0;", "any;", "stop;", "loop 3;end;", "when heard ann;end;"};
        for (String step : all) {
            faulty(c, "any;".repeat(30), step, 6);
            taken(c, "any;".repeat(29) + step, 30);
            faulty(c, "any;".repeat(30) + " ", step.substring(0, step.indexOf(step.contains(" ") ? ' ' : ';')), 6);
        }
        c.says("end is none: thirty of each in 300 bytes");
        SighChart most = c.years(TWO, "loop2;end;".repeat(30), 30);
        c.answered(most, "live(0)", most.live(0), 30);
        c.answered(most, "lived(4)", most.lived(4), 0);
        SighChart nested = c.years(TWO, "loop2;loop2;loop2;end;end;end;".repeat(10), 30);
        c.answered(nested, "live(0)", nested.live(0), 10 * (1 + 2 * (1 + 2)));
        nested.mark();
        Check.duchy(nested, "");
        nested.back();
        c.answered(nested, "live(0) behind a back", nested.live(0), 70);
        c.says("end is none");
        taken(c, "loop 1;end;".repeat(27), 27);
        taken(c, "any;".repeat(27) + "loop 1;loop 1;loop 1;end;end;end;", 30);
        taken(c, "loop 1;" + "any;".repeat(29) + "end;", 30);
        taken(c, "loop 1;end;".repeat(15) + "any;".repeat(15), 30);
        taken(c, "any;".repeat(15) + "when heard ann;".repeat(3) + "any;".repeat(12) + "end;".repeat(3), 30);
        faulty(c, "loop 1;" + "any;".repeat(29), "any;end;", 6);
        faulty(c, "loop 1;" + "any;".repeat(29) + "end;", "any;", 6);
        faulty(c, "loop 1;" + "any;".repeat(29) + "end;", "end;", 2);
        faulty(c, "loop 1;end;".repeat(15) + "any;".repeat(15), "any;", 6);
        c.says("when, loop are STEPS");
        faulty(c, "any;".repeat(29) + "loop 1;", "loop 1;", 6);
        faulty(c, "any;".repeat(29) + "when heard ann;", "stop;", 6);
    }

    private static void withinThree(Check c) {
        c.says("7 a when, loop within three others (at its WORD)");
        for (int inner = 0; inner < 16; inner++) {
            StringBuilder ahead = new StringBuilder();
            for (int depth = 0; depth < 3; depth++) {
                ahead.append((inner >> depth & 1) == 0 ? "loop 1;" : "when heard ann;");
            }
            String fourth = inner >> 3 == 0 ? "loop 1;" : "when heard ann;";
            taken(c, ahead + "end;end;end;", 3);
            taken(c, ahead + "any;end;" + fourth + "any;end;any;end;any;end;", 8);
            taken(c, ahead + "end;end;end;" + ahead + "end;end;end;", 6);
            faulty(c, ahead.toString(), fourth + "end;end;end;end;", 7);
            faulty(c, ahead + "any;", inner >> 3 == 0 ? "loop" : "when", 7);
            faulty(c, ahead + "any;end;" + fourth, fourth, 7);
        }
        c.says("other STEPS can be within three");
        taken(c, "loop 1;loop 1;loop 1;any;stop;hear ann;told ann 0 0 calm;sail 0 0;end;end;end;", 8);
    }

    private static void theFirstAlongTheText(Check c) {
        c.says("FAULTS, the first along the text");
        faulty(c, "hear ", "eve;loop 0;?", 3);
        faulty(c, "loop ", "0;hear eve;", 4);
        faulty(c, "loop 1;loop 1;loop 1;", "loop 0;", 7);
        faulty(c, "any;".repeat(30), "hear eve;", 6);
        faulty(c, "told ", "eve 9 9 white;", 3);
        faulty(c, "told ann ", "9 9 white;", 4);
        faulty(c, "told ann 0 ", "9 white;", 4);
        faulty(c, "told ann 0 0 ", "white;", 2);
        faulty(c, "loop 3;hear ", "eve;", 3);
        faulty(c, "loop 3;any;end", "", 2);
        faulty(c, "loop 3;any;", "?", 1);
    }

    private static void theLeastKind(Check c) {
        c.says("of one TOKEN the least kind");
        // 6 and 7: a 31st step that is within three others.
        faulty(c, "any;".repeat(27) + "loop 1;loop 1;loop 1;", "loop 1;", 6);
        faulty(c, "any;".repeat(27) + "loop 1;loop 1;loop 1;", "when heard ann;", 6);
        faulty(c, "any;".repeat(26) + "loop 1;loop 1;loop 1;", "loop 1;", 7);
        // 2 and 6: what is no step behind thirty
        faulty(c, "any;".repeat(30), "row s;", 2);
        faulty(c, "any;".repeat(30), "end;", 2);
        faulty(c, "any;".repeat(30), "ann;", 2);
        // 1 and all others
        faulty(c, "any;".repeat(30), "?", 1);
        faulty(c, "any;".repeat(30), "12345", 1);
        faulty(c, "loop 3;", "?", 1);
        faulty(c, "hear ", "Ann;", 1);
        faulty(c, "loop ", "-1;", 1);
        faulty(c, "loop ", "10000;", 1);
        faulty(c, "when ", "!heard ann;", 1);
        faulty(c, "when known ", "~ 3;", 1);
        faulty(c, "told ann 0 0 ", "Calm;", 1);
        faulty(c, "any ", "?", 1);
        faulty(c, "loop 3;end ", "?", 1);
        // 2 and 3
        faulty(c, "hear ", "any;", 2);
        faulty(c, "hear ", "evelynlou;", 2);
        faulty(c, "hear ", "evelynlo;", 3);
    }

    private static void bySeaAndTravellersNow(Check c) {
        c.says("a NAME that is no TRAVELLER: a DUCHY without TRAVELLERS");
        c.faultyYears("row s;", "hear ", "ann;", 3);
        c.faultyYears("row s;", "when heard ", "ann;end;", 3);
        c.says("one who came later has no NAME");
        SighChart x = Check.with("row s;");
        x.come(0);
        c.fault(x, "hear a;", Check.years(x, "hear a;"), 3, 5);
        c.says("a row, a column of the SEA: a DUCHY without a SEA");
        for (String ahead : new String[] {"sail ", "told ann ", "when white ", "when drawn "}) {
            c.faultyYears("traveller ann;", ahead, "0 0;", 4);
        }
        c.says("any, hear, stop, known can be without a SEA");
        c.years("traveller ann;", "any;hear ann;when known = 0;stop;end;", 4);
        c.says("a row, a column of the SEA: of the largest");
        c.years("row ssssss;".repeat(6), "sail 5 5;", 1);
        c.faultyYears("row ssssss;".repeat(6), "sail ", "6 5;", 4);
        c.faultyYears("row ssssss;".repeat(6), "sail 5 ", "6;", 4);
    }
}
