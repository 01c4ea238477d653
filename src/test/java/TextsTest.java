/** Promises 9 to 12, and the faults of both texts. */
final class TextsTest {
    private static final String SEA = "row srb;row iss;";
    private static final String TWO = SEA + "traveller ann;traveller bob lies 3 heard;";

    public static void main(String[] args) {
        Check check = new Check("TextsTest");
        feeding(check);
        taking(check);
        duchyFaults(check);
        yearsFaults(check);
        wholeDuchy(check);
        check.end();
    }

    private static void feeding(Check c) {
        SighChart x = new SighChart();
        for (int i = 1; i <= 45; i++) {
            c.due("feed", x.feed(0x20202020, 0x20202020, 0x20202020, 0x20202020, 0x20202020), 20 * i);
        }
        c.refused(x, "many(9)", x.many(9), 5);
        c.due("feed over 900", x.feed(0, 0, 0, 0, 0), -1);
        c.due("feed has no status", x.status(), 5);
        c.answered(x, "duchy(900)", x.duchy(900), 0);
        c.due("feed anew", x.feed(0x726F7720, 0x733B2020, 0x20202020, 0x20202020, 0x20202020), 20);
        c.answered(x, "duchy(20)", x.duchy(20), 1);
    }

    private static void taking(Check c) {
        SighChart x = new SighChart();
        Check.feed(x, "row sr;row bi;odds 7;");
        c.refused(x, "duchy(-1)", x.duchy(-1), 5);
        c.refused(x, "duchy(41)", x.duchy(41), 5);
        c.due("fault(0)", x.fault(0), -1);
        c.answered(x, "duchy(14)", x.duchy(14), 4);
        c.due("fault(0)", x.fault(0), 0);
        c.due("fault(1)", x.fault(1), -1);
        c.due("fault(2)", x.fault(2), -1);
        c.due("fault(-1)", x.fault(-1), -1);
        c.answered(x, "many(4)", x.many(4), 4);
        c.refused(x, "duchy(1), the tape is empty", x.duchy(1), 5);
        Check.feed(x, "odds 8;row q;");
        c.fault(x, "odds 8;row q;", x.duchy(13), 4, 11);
        c.answered(x, "many(1), the old one stays", x.many(1), 2);
        c.answered(x, "many(4), the old one stays", x.many(4), 4);
        c.refused(x, "duchy(1), the tape is empty", x.duchy(1), 5);
        c.due("fault(0) stays by 5", x.fault(0), 4);
        c.answered(x, "years(0)", x.years(0), 0);
        c.due("fault(0)", x.fault(0), 0);
        c.answered(x, "live(0) of years without steps", x.live(0), 0);
        c.answered(x, "duchy(0)", x.duchy(0), 0);
        c.answered(x, "many(0)", x.many(0), 0);
        c.refused(x, "live(0), a new duchy has no years", x.live(0), 8);
        Check.feed(x, " ".repeat(320));
        c.refused(x, "years(301)", x.years(301), 5);
        c.refused(x, "years(-1)", x.years(-1), 5);
        c.answered(x, "years(300)", x.years(300), 0);
        c.refused(x, "years(1)", x.years(1), 5);
        Check.duchy(x, TWO);
        Check.years(x, "hear ann;");
        c.fault(x, "hear eve;", Check.years(x, "hear eve;"), 3, 5);
        c.answered(x, "live(0), the old years stay", x.live(0), 1);
    }

    private static void duchy(Check c, String text, int kind, int place) {
        SighChart x = new SighChart();
        c.fault(x, text, Check.duchy(x, text), kind, place);
    }

    private static void taken(Check c, String text, int cells) {
        SighChart x = new SighChart();
        c.answered(x, text, Check.duchy(x, text), cells);
    }

    private static void duchyFaults(Check c) {
        duchy(c, "row s.", 1, 5);
        duchy(c, "row S;", 1, 4);
        duchy(c, "\u00e9", 1, 0);
        duchy(c, "row s\t;", 1, 5);
        duchy(c, "row s; odds 12345;", 1, 12);
        duchy(c, "row 12345;", 1, 4);
        duchy(c, "row 99999999999999999999;", 1, 4);
        duchy(c, "row", 2, 3);
        duchy(c, "row  ", 2, 5);
        duchy(c, "row s", 2, 5);
        duchy(c, "row 1;", 2, 4);
        duchy(c, "row ;", 2, 4);
        duchy(c, "ann;", 2, 0);
        duchy(c, ";", 2, 0);
        duchy(c, "row s<", 2, 5);
        duchy(c, "hear ann;", 2, 0);
        duchy(c, "row s b;", 2, 6);
        duchy(c, "odds s;", 2, 5);
        duchy(c, "odds 17;", 4, 5);
        duchy(c, "odds 9999;", 4, 5);
        duchy(c, "odds 3;odds 4;", 5, 7);
        duchy(c, "row sx;", 4, 4);
        duchy(c, "row heard;", 4, 4);
        duchy(c, "row sssssss;", 4, 4);
        duchy(c, "row ss;row s;", 4, 11);
        duchy(c, "row ss;row sss;", 4, 11);
        duchy(c, "row s;row s;row s;row s;row s;row s;row s;", 6, 36);
        duchy(c, "harbour 0 0;", 4, 8);
        duchy(c, SEA + "harbour 2 0;", 4, 24);
        duchy(c, SEA + "harbour 1 3;", 4, 26);
        duchy(c, SEA + "harbour 1;", 2, 25);
        duchy(c, SEA + "harbour 0 0;harbour 0 0;", 5, 28);
        duchy(c, SEA + "harbour 0 0;row sss;", 5, 28);
        duchy(c, "row s;row s;row s;row s;row s;row s;harbour 0 0;row s;", 5, 48);
        duchy(c, SEA + "traveller a;told a 0 0 calm;row sss;", 5, 44);
        duchy(c, "traveller heard;", 2, 10);
        duchy(c, "traveller abcdefghi;", 2, 10);
        duchy(c, "traveller abcdefghijklmnopqrstuvwxyz;", 2, 10);
        duchy(c, "traveller 1;", 2, 10);
        duchy(c, "traveller ann;traveller ann;", 3, 24);
        duchy(c, "traveller ann lies 17;", 4, 19);
        duchy(c, "traveller ann lies;", 2, 18);
        duchy(c, "traveller ann heard lies 1;", 2, 20);
        duchy(c, "traveller ann heard heard;", 2, 20);
        duchy(c, "traveller a;traveller b;traveller c;traveller d;traveller e;traveller f;", 6, 60);
        duchy(c, TWO + "told eve 0 0 calm;", 3, 62);
        duchy(c, TWO + "told calm 0 0 calm;", 2, 62);
        duchy(c, TWO + "told ann 2 0 calm;", 4, 66);
        duchy(c, TWO + "told ann 0 3 calm;", 4, 68);
        duchy(c, TWO + "told ann 0 0 white;", 2, 70);
        duchy(c, TWO + "told ann 0 0 calm missed 10;", 4, 82);
        duchy(c, TWO + "told ann 0 0 calm missed;", 2, 81);
        duchy(c, "traveller ann;told ann 0 0 calm;", 4, 23);
        String five = "told ann 0 0 calm;".repeat(5);
        duchy(c, TWO + five + "told bob 0 0 calm;", 5, 57 + 90 + 11);
        duchy(c, TWO + five + "told bob 0 3 calm;", 4, 57 + 90 + 11);
        String twelve = five + "told ann 0 1 calm;".repeat(5) + "told bob 1 1 sigh;".repeat(2);
        taken(c, TWO + twelve, 6);
        duchy(c, TWO + twelve + "told", 6, 57 + 216);
        duchy(c, TWO + twelve + "row sss;", 5, 57 + 216);
        taken(c, "row s;row s;row s;row s;row s;row s;", 6);
        taken(c, "row ssssss;row ssssss;row ssssss;row ssssss;row ssssss;row ssssss;", 36);
        taken(c, "row\nsrbi ;odds\n\n0016;traveller a;traveller b;traveller c;traveller d;traveller abcdefgh lies 16 heard;", 4);
        taken(c, "  ", 0);
        taken(c, "traveller ann lies2heard;row s;told ann 0 0sigh missed9;", 1);
        taken(c, "row s;traveller traveler;traveller end2;".substring(0, 24) + ";", 1);
    }

    private static void years(Check c, String text, int kind, int place) {
        SighChart x = Check.with(TWO);
        c.fault(x, text, Check.years(x, text), kind, place);
    }

    private static void takenYears(Check c, String text, int steps) {
        SighChart x = Check.with(TWO);
        c.answered(x, text, Check.years(x, text), steps);
    }

    private static void yearsFaults(Check c) {
        years(c, "hear ann?", 1, 8);
        years(c, "loop 10000;", 1, 5);
        years(c, "any", 2, 3);
        years(c, "row s;", 2, 0);
        years(c, "end;", 2, 0);
        years(c, "any; end;", 2, 5);
        years(c, "hear ann heard;", 2, 9);
        years(c, "hear abcdefghi;", 2, 5);
        years(c, "hear any;", 2, 5);
        years(c, "hear ;", 2, 5);
        years(c, "forget eve;", 3, 7);
        years(c, "told ann 0 0 known;", 2, 13);
        years(c, "told ann 0 0 calm missed 0;", 2, 18);
        years(c, "sail 2 0;", 4, 5);
        years(c, "sail 0 3;", 4, 7);
        years(c, "when any; end;", 2, 5);
        years(c, "when heard eve; end;", 3, 11);
        years(c, "when heard ann end;", 2, 15);
        years(c, "when white 0 0 0; end;", 2, 15);
        years(c, "when drawn 0 0; end;", 2, 14);
        years(c, "when known ; 3;", 2, 11);
        years(c, "when known << 3;", 2, 12);
        years(c, "when known 61 3; end;", 2, 11);
        years(c, "when known calm 3; end;", 2, 11);
        years(c, "when known = 37; end;", 4, 13);
        years(c, "when known = ann; end;", 2, 13);
        years(c, "loop 100; end;", 4, 5);
        years(c, "loop 0; end;", 4, 5);
        years(c, "loop 2; any;  ", 2, 14);
        years(c, "loop 2; end", 2, 11);
        years(c, "loop 2; end; end;", 2, 13);
        years(c, "when heard ann;loop 1;when white 0 0;when heard ann;", 7, 37);
        years(c, "loop 1;loop 1;loop 1;any;loop", 7, 25);
        years(c, "any;".repeat(30) + "any;", 6, 120);
        years(c, "any;".repeat(29) + "loop 1;loop 1;", 6, 123);
        years(c, "any;".repeat(27) + "loop 1;loop 1;loop 1;loop 1;", 6, 129);
        takenYears(c, "any;".repeat(27) + "loop 1;loop 1;loop 1;end;end;end;", 30);
        takenYears(c, "loop 1;end;".repeat(27), 27);
        takenYears(c, "when known<0;when known>36;when known=7;stop;end;end;end;loop 99;end;", 5);
        takenYears(c, "hear ann;forget bob;told ann 1 2 tears;sail 0 0;any;stop;", 6);
        takenYears(c, "", 0);
        SighChart empty = new SighChart();
        c.fault(empty, "sail 0 0;", Check.years(empty, "sail 0 0;"), 4, 5);
        c.answered(empty, "any;", Check.years(empty, "any;"), 1);
        SighChart came = Check.with("row s;");
        came.come(3);
        c.fault(came, "hear a;", Check.years(came, "hear a;"), 3, 5);
    }

    private static void wholeDuchy(Check c) {
        SighChart x = Check.with(TWO + "odds 9;harbour 1 2;told bob 1 0 sigh missed 4;told ann 0 2 fear;");
        c.many(x, 2, 3, 2, 2, 9, 5, 2, 5, 1);
        long[] kinds = {0, 1, 2, 3, 0, 0};
        for (int cell = 0; cell < 6; cell++) {
            c.answered(x, "cell(" + cell + ", 0)", x.cell(cell, 0), kinds[cell]);
        }
        c.answered(x, "traveller(1, 0)", x.traveller(1, 0), 3);
        c.answered(x, "traveller(1, 1)", x.traveller(1, 1), 1);
        c.answered(x, "telling(0, 3)", x.telling(0, 3), 4);
        c.answered(x, "telling(1, 1)", x.telling(1, 1), 2);
        c.answered(x, "telling(1, 3)", x.telling(1, 3), 0);
    }
}
