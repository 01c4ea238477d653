/** The bounds of promises 9 to 12, and of TOKENS, a sentence of the document at a time. */
final class TapeEdgesTest {
    private static final int MIN = Integer.MIN_VALUE;
    private static final int MAX = Integer.MAX_VALUE;
    private static final String TWO = "row sr;traveller ann heard;traveller bob;";

    public static void main(String[] args) {
        Check c = new Check("TapeEdgesTest");
        theHighestFirst(c);
        atMostNineHundred(c);
        firstBytesOfTheTape(c);
        emptyButForFive(c);
        fiveAheadOfTen(c);
        yearsAboveThreeHundred(c);
        theOldOneStays(c);
        inPlaceOfThatAhead(c);
        manyInARow(c);
        nothingIsLeftOfAFaultyOne(c);
        faultOfTheLatest(c);
        everyByte(c);
        blanks(c);
        tokensAsLongAsTheyGo(c);
        numbersOfFourDigits(c);
        wordsOfAnyLength(c);
        theTextsLength(c);
        c.end();
    }

    private static int blankFeed(SighChart x) {
        return x.feed(0x20202020, 0x20202020, 0x20202020, 0x20202020, 0x20202020);
    }

    private static void theHighestFirst(Check c) {
        c.says("Twenty bytes come behind those on the tape, the highest of each int first: how many it has");
        SighChart x = new SighChart();
        // "row " "srbi" ";odd" "s 12" ";   "
        c.due("feed", x.feed(0x726F7720, 0x73726269, 0x3B6F6464, 0x73203132, 0x3B202020), 20);
        c.answered(x, "duchy(20)", x.duchy(20), 4);
        c.answered(x, "many(4)", x.many(4), 12);
        for (int cell = 0; cell < 4; cell++) {
            c.answered(x, "cell(" + cell + ", 0)", x.cell(cell, 0), cell);
        }
        c.says("the highest of each int first: ints below 0");
        c.due("feed", x.feed(0x20202020, 0xFF202020, 0, 0, 0), 20);
        c.fault(x, "a byte 255", x.duchy(20), 1, 4);
        c.due("feed", x.feed(0x2020200A, 0x202020F0, 0, 0, 0), 20);
        c.fault(x, "a byte 240 as the lowest", x.duchy(20), 1, 7);
    }

    private static void atMostNineHundred(Check c) {
        c.says("NONE if there would be more than 900");
        SighChart x = new SighChart();
        for (int fed = 1; fed <= 45; fed++) {
            c.due("feed " + fed, blankFeed(x), 20 * fed);
        }
        c.due("feed 46", x.feed(0, 0, 0, 0, 0), -1);
        c.due("feed 47", x.feed(0x21212121, 0, 0, 0, 0), -1);
        c.refused(x, "duchy(901)", x.duchy(901), 5);
        c.answered(x, "duchy(900), of blanks alone still", x.duchy(900), 0);
        c.due("feed on the empty tape", blankFeed(x), 20);
        c.says("A DUCHY is a TEXT of at most 900 bytes");
        StringBuilder text = new StringBuilder("row ss;");
        while (text.length() < 900 - "odds 16;".length()) {
            text.append(text.length() % 2 == 0 ? ' ' : '\n');
        }
        text.append("odds 16;");
        SighChart y = c.sea(text.toString(), 2);
        c.answered(y, "many(4)", y.many(4), 16);
    }

    private static void firstBytesOfTheTape(Check c) {
        c.says("The first n bytes of the tape are the DUCHY: how many CELLS (5)");
        SighChart x = new SighChart();
        for (int n : new int[] {-1, 1, MIN, MAX}) {
            c.refused(x, "duchy(" + n + ") of an empty tape", x.duchy(n), 5);
        }
        c.answered(x, "duchy(0) of an empty tape", x.duchy(0), 0);
        Check.feed(x, "row srb;row ssi;odds 9;");
        for (int n : new int[] {-1, 41, MIN, MAX, 900}) {
            c.refused(x, "duchy(" + n + ")", x.duchy(n), 5);
        }
        c.answered(x, "duchy(40), all of it", x.duchy(40), 6);
        Check.feed(x, "row srb;row ssi;odds 9;");
        c.answered(x, "duchy(8), one row", x.duchy(8), 3);
        c.answered(x, "many(4), the odds stand behind it", x.many(4), 4);
        Check.feed(x, "row srb;row ssi;odds 9;");
        c.fault(x, "duchy(7), cut in its row", x.duchy(7), 2, 7);
        Check.feed(x, "row srb;row ssi;odds 9;");
        c.fault(x, "duchy(10), cut in a word", x.duchy(10), 2, 8);
        Check.feed(x, "row srb;odds 12;");
        c.fault(x, "duchy(14), cut in a number", x.duchy(14), 2, 14);
        Check.feed(x, "row srb;odds 12345;");
        c.fault(x, "duchy(17), four digits of five", x.duchy(17), 4, 13);
        Check.feed(x, "row srb;");
        c.answered(x, "duchy(0) of a tape that has more", x.duchy(0), 0);
        c.refused(x, "duchy(1), the tape is empty", x.duchy(1), 5);
    }

    private static void emptyButForFive(Check c) {
        c.says("The first n bytes of the tape (which is empty then, but for 5)");
        SighChart x = new SighChart();
        Check.feed(x, "row ss; row ss;");
        c.answered(x, "duchy(7)", x.duchy(7), 2);
        c.due("feed behind a duchy that was taken", blankFeed(x), 20);
        Check.feed(x, "odds");
        c.fault(x, "odds behind twenty blanks", x.duchy(24), 2, 24);
        c.due("feed behind a duchy with a FAULT", blankFeed(x), 20);
        c.refused(x, "duchy(21)", x.duchy(21), 5);
        c.due("feed behind a duchy with 5", blankFeed(x), 40);
        c.refused(x, "years(41)", x.years(41), 5);
        c.refused(x, "years(-1)", x.years(-1), 5);
        c.due("feed behind years with 5", blankFeed(x), 60);
        c.answered(x, "years(1)", x.years(1), 0);
        c.due("feed behind years that were taken", x.feed(0x78782020, 0, 0, 0, 0), 20);
        c.fault(x, "xx", x.years(3), 2, 0);
        c.due("feed behind years with a FAULT", blankFeed(x), 20);
    }

    private static void fiveAheadOfTen(Check c) {
        c.says("STATUS of a call is the first of these that holds: 5 ahead of 10");
        SighChart x = Check.with(TWO);
        c.fault(x, "odds 17;", Check.duchy(x, "odds 17;"), 4, 5);
        Check.feed(x, "?" + " ".repeat(319));
        for (int n : new int[] {MIN, -1, 321, MAX}) {
            c.refused(x, "duchy(" + n + ") of a faulty text", x.duchy(n), 5);
            c.refused(x, "years(" + n + ") of a faulty text", x.years(n), 5);
        }
        c.refused(x, "years(301) of a faulty text", x.years(301), 5);
        c.due("fault(0), nothing was read", x.fault(0), 4);
        c.due("fault(1), nothing was read", x.fault(1), 5);
        c.due("feed, the tape stays", blankFeed(x), 340);
        c.fault(x, "years(300)", x.years(300), 1, 0);
        c.many(x, 1, 2, 2, 0, 4, 0, 1, 2, 0);
    }

    private static void yearsAboveThreeHundred(Check c) {
        c.says("Likewise the YEARS: how many STEPS (5: above 300, too; 10)");
        SighChart x = new SighChart();
        c.refused(x, "years(1) of an empty tape", x.years(1), 5);
        c.answered(x, "years(0) of an empty tape", x.years(0), 0);
        for (int n : new int[] {-1, MIN, MAX, 301, 21}) {
            c.refused(x, "years(" + n + ")", x.years(n), 5);
        }
        Check.feed(x, "any;" + " ".repeat(336));
        c.refused(x, "years(301)", x.years(301), 5);
        c.refused(x, "years(340)", x.years(340), 5);
        c.answered(x, "years(300)", x.years(300), 1);
        c.refused(x, "years(1), the tape is empty", x.years(1), 5);
        c.says("YEARS are a TEXT of at most 300 bytes");
        SighChart y = new SighChart();
        c.answered(y, "stop at its end", Check.years(y, " ".repeat(295) + "stop;"), 1);
        c.answered(y, "live(0)", y.live(0), 1);
        Check.feed(y, "any;" + " ".repeat(291) + "stop;;");
        c.answered(y, "years(300) of a tape that goes on", y.years(300), 2);
        Check.feed(y, " ".repeat(900));
        c.refused(y, "years(900)", y.years(900), 5);
        c.answered(y, "duchy(900)", y.duchy(900), 0);
    }

    private static void theOldOneStays(Check c) {
        c.says("10: the old one stays");
        SighChart x = Check.with("row srb;odds 7;harbour 0 2;traveller ann lies 3 heard;told ann 0 1 tears missed 4;");
        Check.years(x, "any;stop;");
        c.fault(x, "a faulty duchy", Check.duchy(x, "row s;odds 1;traveller bob;told bob 0 0 calm;odds 2;"), 5, 45);
        c.many(x, 1, 3, 1, 1, 7, 2, 1, 2, 0);
        c.answered(x, "cell(1, 0)", x.cell(1, 0), 1);
        c.answered(x, "traveller(0, 0)", x.traveller(0, 0), 3);
        c.answered(x, "telling(0, 3)", x.telling(0, 3), 4);
        c.answered(x, "forget ann, by her name", Check.years(x, "forget ann;forget ann;forget ann;"), 3);
        c.fault(x, "faulty years", Check.years(x, "any;end;"), 2, 4);
        c.answered(x, "live(0), of the old YEARS", x.live(0), 3);
        c.answered(x, "lived(0)", x.lived(0), 2);
    }

    private static void inPlaceOfThatAhead(Check c) {
        c.says("A DUCHY that is taken is there in place of that ahead; there are no YEARS");
        SighChart x = Check.with("row srb;odds 7;harbour 0 2;traveller ann lies 3 heard;told ann 0 1 tears missed 4;");
        Check.years(x, "hear ann;");
        c.answered(x, "row s;", Check.duchy(x, "row s;"), 1);
        c.many(x, 1, 1, 0, 0, 4, 0, 0, 1, 0);
        c.refused(x, "live(0)", x.live(0), 8);
        c.denied(x, "mean(0, 1)", x.mean(0, 1), 8);
        c.refused(x, "cell(1, 0)", x.cell(1, 0), 2);
        c.refused(x, "traveller(0, 0)", x.traveller(0, 0), 2);
        c.refused(x, "telling(0, 0)", x.telling(0, 0), 2);
        c.fault(x, "hear ann;", Check.years(x, "hear ann;"), 3, 5);
        c.says("YEARS that are taken are there in place of those ahead");
        Check.years(x, "any;any;any;");
        c.answered(x, "live(0)", x.live(0), 3);
        Check.years(x, "any;");
        c.answered(x, "live(0)", x.live(0), 1);
        Check.years(x, "");
        c.answered(x, "live(0), YEARS without STEPS", x.live(0), 0);
    }

    /** A square open sea without anything else. */
    private static void isAlone(Check c, SighChart x, int side, String what) {
        c.many(x, side, side, 0, 0, 4, side == 0 ? -1 : 0, 0, side * side, 0);
        c.refused(x, "live(0) of " + what, x.live(0), 8);
        c.refused(x, "traveller(0, 0) of " + what, x.traveller(0, 0), 2);
        c.refused(x, "telling(0, 0) of " + what, x.telling(0, 0), 2);
        for (int cell = 0; cell < side * side; cell++) {
            for (int kind = 0; kind < 4; kind++) {
                c.answered(x, "votes(" + cell + ", " + kind + ") of " + what, x.votes(cell, kind), 0);
            }
            c.answered(x, "cell(" + cell + ", 0) of " + what, x.cell(cell, 0), 0);
            c.answered(x, "cell(" + cell + ", 4) of " + what, x.cell(cell, 4), 0);
        }
        c.answered(x, "come(3) to " + what, x.come(3), 0);
        c.answered(x, "traveller(0, 1) of " + what, x.traveller(0, 1), 0);
    }

    /** However many were ahead of it, nothing of them is left in a duchy. */
    private static void manyInARow(Check c) {
        c.says("A DUCHY that is taken is there in place of that ahead; there are no YEARS: of several in a row");
        String rich = "row rbi;row bir;odds 7;harbour 1 2;traveller ann lies 3 heard;traveller bob lies 9 heard;"
                + "told ann 0 1 tears missed 4;told bob 1 2 sigh missed 5;told bob 0 0 fear;";
        String[] plain = {"", "row s;", "row ss;row ss;row ss;", "row sssssss;", "?", "row s;odds 9;harbour 0 0;loop"};
        String[] lasts = {"", "row s;", "row ss;row ss;"};
        for (int times = 1; times <= 4; times++) {
            for (String next : plain) {
                for (int side = 0; side < lasts.length; side++) {
                    SighChart x = new SighChart();
                    for (int i = 0; i < times; i++) {
                        c.answered(x, rich, Check.duchy(x, rich), 6);
                        c.answered(x, "years", Check.years(x, "hear ann;forget bob;"), 2);
                    }
                    Check.duchy(x, next);
                    c.answered(x, lasts[side], Check.duchy(x, lasts[side]), side * side);
                    isAlone(c, x, side, lasts[side]);
                }
            }
        }
    }

    private static void nothingIsLeftOfAFaultyOne(Check c) {
        c.says("10: the old one stays; of the faulty one nothing does");
        String[] cut = {"loop 3;", "loop 3;loop 3;loop 3;", "when heard ann;loop 2;any;", "any;".repeat(31), "any;any;?", "loop 1;end;end;"};
        for (String faulty : cut) {
            SighChart x = Check.with(TWO);
            for (int times = 0; times < 3; times++) {
                c.refused(x, faulty, Check.years(x, faulty), 10);
                c.answered(x, "any behind " + faulty, Check.years(x, "any;any;"), 2);
                c.answered(x, "live(0) behind " + faulty, x.live(0), 2);
                c.refused(x, faulty, Check.years(x, faulty), 10);
                c.fault(x, "end behind " + faulty, Check.years(x, "end;"), 2, 0);
                c.answered(x, "thirty behind " + faulty, Check.years(x, "any;".repeat(27) + "loop 1;loop 1;loop 1;end;end;end;"), 30);
            }
        }
        String[] cutDuchies = {"odds 3;?", "row ss;harbour 0 0;?", "row ss;row ss;traveller a;told a 0 0 calm;row", "traveller ann;traveller ann;"};
        for (String faulty : cutDuchies) {
            SighChart x = new SighChart();
            for (int times = 0; times < 3; times++) {
                c.refused(x, faulty, Check.duchy(x, faulty), 10);
                c.answered(x, "a whole one behind " + faulty,
                        Check.duchy(x, "odds 5;traveller ann;row sss;traveller a heard;harbour 0 2;told a 0 2 calm;"), 3);
                c.many(x, 1, 3, 2, 1, 5, 2, 2, 2, 1);
            }
        }
    }

    private static void faultOfTheLatest(Check c) {
        c.says("Of the latest of these with STATUS 0 or 10, what 0: the FAULT (0 without one), 1: its place (NONE without)");
        SighChart x = new SighChart();
        c.due("fault(0) ahead of any", x.fault(0), -1);
        c.due("fault(1) ahead of any", x.fault(1), -1);
        x.duchy(-1);
        x.years(7);
        c.due("fault(0) behind 5 alone", x.fault(0), -1);
        c.due("fault(1) behind 5 alone", x.fault(1), -1);
        Check.duchy(x, "row s;");
        c.due("fault(0) behind a duchy", x.fault(0), 0);
        c.due("fault(1) behind a duchy", x.fault(1), -1);
        c.fault(x, "any", Check.years(x, " any"), 2, 4);
        x.duchy(1);
        c.due("fault(0) behind 5", x.fault(0), 2);
        c.due("fault(1) behind 5", x.fault(1), 4);
        Check.years(x, "any;");
        c.due("fault(0) behind years", x.fault(0), 0);
        c.due("fault(1) behind years", x.fault(1), -1);
        c.fault(x, "odds 17;", Check.duchy(x, "odds 17;"), 4, 5);
        c.fault(x, "?", Check.duchy(x, "?"), 1, 0);
        x.many(0);
        c.due("fault(0) behind other calls", x.fault(0), 1);
        c.due("fault(1) behind other calls", x.fault(1), 0);
        c.says("NONE for others");
        for (int what : new int[] {-1, 2, 3, MIN, MAX}) {
            c.due("fault(" + what + ")", x.fault(what), -1);
        }
    }

    /** What a single byte is at the beginning of a text. */
    private static void everyByte(Check c) {
        c.says("between them blanks (10, 32): WORDS (small letters), NUMBERS, SIGNS ; < > =; 1 no TOKEN begins so");
        for (int b = 0; b < 256; b++) {
            boolean begins = b >= 'a' && b <= 'z' || b >= '0' && b <= '9' || b == ';' || b == '<' || b == '>' || b == '=';
            for (int text = 0; text < 2; text++) {
                SighChart x = Check.with("row s;");
                x.feed(b << 24, 0, 0, 0, 0);
                long got = text == 0 ? x.duchy(1) : x.years(1);
                if (b == 10 || b == 32) {
                    c.answered(x, "byte " + b, got, 0);
                } else {
                    c.fault(x, "byte " + b, got, begins ? 2 : 1, 0);
                }
            }
        }
        c.says("between them blanks (10, 32): ahead of a SIGN");
        for (int b = 0; b < 256; b++) {
            boolean letter = b >= 'a' && b <= 'z';
            SighChart x = new SighChart();
            // "row s" and the byte, ";"
            x.feed(0x726F7720, 0x73 << 24 | b << 16 | 0x3B20, 0, 0, 0);
            long got = x.duchy(7);
            boolean cell = b == 's' || b == 'r' || b == 'b' || b == 'i';
            if (b == 10 || b == 32 || cell) {
                c.answered(x, "row s" + b + ";", got, cell ? 2 : 1);
            } else if (b == ';') {
                c.fault(x, "row s;;", got, 2, 6);
            } else if (letter) {
                c.fault(x, "row s" + b + ";", got, 4, 4);
            } else {
                boolean token = b >= '0' && b <= '9' || b == '<' || b == '>' || b == '=';
                c.fault(x, "row s" + b + ";", got, token ? 2 : 1, 5);
            }
        }
    }

    private static void blanks(Check c) {
        c.says("TOKENS, between them blanks (10, 32): none, one, or more");
        c.sea("row ss;odds 3;", 2);
        c.sea("  row   ss  ;\n\nodds\n3\n;\n", 2);
        c.sea("row\nss;", 2);
        c.sea("row ss;traveller ann lies3heard;told ann 0 1sigh missed9;", 2);
        c.sea("", 0);
        c.sea(" ", 0);
        c.sea("\n", 0);
        c.sea(" \n ", 0);
        c.years(TWO, "hear ann;forget bob;when known<3;end;when known =3;end;when known> 3;end;", 5);
        c.years(TWO, "\n told bob 0 1fear ;\nsail 0\n0 ; ", 2);
        c.faultyDuchy("rowss;", 2, 0);
        c.faultyDuchy("ro w ss;", 2, 0);
        c.faultyDuchy("row s s;", 2, 6);
    }

    private static void tokensAsLongAsTheyGo(Check c) {
        c.says("TOKENS, as long as they go");
        c.faultyDuchy("row ssrow ss;", 4, 4);
        c.faultyDuchy("odds 1 2;", 2, 7);
        c.faultyDuchy("odds1;row ss;odds2;", 5, 13);
        c.faultyDuchy("row s;harbour 00;", 2, 16);
        c.faultyDuchy("traveller annheard lies", 2, 23);
        c.faultyDuchy("traveller annlies3;", 2, 17);
        c.sea("traveller annheard;traveller ann;", 0);
        c.faultyDuchy("traveller ann heard1;", 2, 19);
        c.faultyDuchy("row s;traveller a;told a 0 0 calmmissed 3;", 2, 29);
        c.says("SIGNS are one byte each");
        c.faultyDuchy("row s;;", 2, 6);
        c.faultyYears(TWO, "when known <= 3;end;", 2, 12);
        c.faultyYears(TWO, "when known == 3;end;", 2, 12);
        c.faultyYears(TWO, "when known <;3;end;", 2, 12);
        c.faultyYears(TWO, "any;;", 2, 4);
    }

    private static void numbersOfFourDigits(Check c) {
        c.says("NUMBERS (1 to 4 digits)");
        for (String number : new String[] {"3", "03", "003", "0003"}) {
            SighChart x = c.sea("odds " + number + ";", 0);
            c.answered(x, "many(4)", x.many(4), 3);
        }
        for (String number : new String[] {"0", "00", "000", "0000"}) {
            SighChart x = c.sea("odds " + number + ";", 0);
            c.answered(x, "many(4)", x.many(4), 0);
        }
        c.faultyDuchy("odds 9999;", 4, 5);
        c.faultyDuchy("odds 1000;", 4, 5);
        c.says("1 no TOKEN begins so (a NUMBER of 5 digits and more: at its first)");
        c.faultyDuchy("odds 00003;", 1, 5);
        c.faultyDuchy("odds 10000;", 1, 5);
        c.faultyDuchy("odds 00000", 1, 5);
        c.faultyDuchy("odds  4294967300;", 1, 6);
        c.faultyDuchy("odds 18446744073709551619;", 1, 5);
        c.faultyDuchy("odds " + "0".repeat(895), 1, 5);
        c.faultyYears(TWO, "loop 00005;end;", 1, 5);
        c.faultyYears(TWO, "sail 0 00000;", 1, 7);
        c.says("of one TOKEN the least kind: 1 where it can't stand, too");
        c.faultyDuchy("12345", 1, 0);
        c.faultyDuchy("row 12345;", 1, 4);
        c.faultyDuchy("row s 12345", 1, 6);
        c.faultyDuchy("traveller 12345;", 1, 10);
        c.faultyDuchy("traveller ann 12345;", 1, 14);
        c.faultyDuchy("row s;harbour 12345 0;", 1, 14);
        c.faultyYears(TWO, "12345", 1, 0);
        c.faultyYears(TWO, "hear 12345", 1, 5);
        c.faultyYears(TWO, "told ann 0 0 12345;", 1, 13);
        c.faultyYears(TWO, "when 12345;", 1, 5);
        c.faultyYears(TWO, "when known 12345;", 1, 11);
    }

    private static void wordsOfAnyLength(Check c) {
        c.says("WORDS (small letters), as long as they go");
        c.faultyDuchy("row " + "s".repeat(890) + ";", 4, 4);
        c.faultyDuchy("x".repeat(900), 2, 0);
        // As many letters as a word of the language has, and that word again at the far end of a long one.
        for (String word : new String[] {"row", "odds", "harbour", "traveller", "told"}) {
            for (int ahead = 1; ahead < 40; ahead++) {
                c.faultyDuchy("a".repeat(ahead) + word + " s;", 2, 0);
                c.faultyDuchy(word + "a".repeat(ahead) + " s;", 2, 0);
            }
        }
        for (String word : new String[] {"any", "stop"}) {
            for (int ahead = 1; ahead < 40; ahead++) {
                c.faultyYears(TWO, "a".repeat(ahead) + word + ";", 2, 0);
                c.faultyYears(TWO, word + "z".repeat(ahead) + ";", 2, 0);
            }
        }
        for (int ahead = 1; ahead < 40; ahead++) {
            c.faultyDuchy("row s;traveller a;told a 0 0 " + "b".repeat(ahead) + "calm;", 2, 29);
        }
    }

    private static void theTextsLength(Check c) {
        c.says("2 it can't stand there (the end: the text's length)");
        String[] cut = {"row", "row s", "odds", "odds 3", "harbour", "harbour 0", "harbour 0 0", "traveller", "traveller ann",
            "traveller ann lies", "traveller ann lies 3", "traveller ann lies 3 heard", "traveller ann heard", "told", "told z", "told z 0",
            "told z 0 0", "told z 0 0 calm", "told z 0 0 calm missed", "told z 0 0 calm missed 3"};
        for (String text : cut) {
            for (String blanks : new String[] {"", " ", "\n \n"}) {
                String ahead = text.startsWith("row") ? "" : "row s;traveller z;";
                c.faultyDuchy(ahead + text + blanks, "", 2);
            }
        }
        String[] cutYears = {"hear", "hear ann", "forget", "forget ann", "told", "told ann", "told ann 0", "told ann 0 0",
            "told ann 0 0 sigh", "sail", "sail 0", "sail 0 0", "any", "stop", "when", "when heard", "when heard ann", "when heard ann;",
            "when heard ann;end", "when white", "when white 0", "when white 0 0", "when drawn", "when drawn 0", "when drawn 0 0",
            "when drawn 0 0 calm", "when known", "when known <", "when known < 3", "when known < 3;any;", "loop", "loop 3", "loop 3;",
            "loop 3;any;", "loop 3;end", "loop 3;loop 4;end;"};
        for (String text : cutYears) {
            for (String blanks : new String[] {"", " ", "\n \n"}) {
                c.faultyYears(TWO, text + blanks, "", 2);
            }
        }
        c.says("the end: the text's length, not the tape's");
        SighChart x = new SighChart();
        Check.feed(x, "row s;odds 4;");
        c.fault(x, "duchy(5)", x.duchy(5), 2, 5);
        Check.feed(x, "row s  ;odds 4;");
        c.fault(x, "duchy(6)", x.duchy(6), 2, 6);
        Check.feed(x, "any;loop 3;any;end;");
        c.fault(x, "years(15)", x.years(15), 2, 15);
    }
}
