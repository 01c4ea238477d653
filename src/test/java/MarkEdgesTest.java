/** The bounds of promises 47 and 48, a sentence of the document at a time. */
final class MarkEdgesTest {
    private static final String SEA = "row srb;row isi;odds 7;harbour 1 2;traveller ann lies 3 heard;traveller bob lies 9;"
            + "told ann 0 0 calm missed 2;told bob 1 2 sigh missed 5;";

    public static void main(String[] args) {
        Check c = new Check("MarkEdgesTest");
        atMostThree(c);
        noMarks(c);
        theDuchyWithAll(c);
        theYears(c);
        theLatestIsGoneThen(c);
        ofItsOwn(c);
        whatIsNotTakenBack(c);
        marksOfNothing(c);
        c.end();
    }

    private static void atMostThree(Check c) {
        c.says("MARKS, at most 3: a MARK more: how many there are (7)");
        SighChart x = new SighChart();
        for (int round = 0; round < 3; round++) {
            c.answered(x, "mark()", x.mark(), 1);
            c.answered(x, "mark()", x.mark(), 2);
            c.answered(x, "mark()", x.mark(), 3);
            c.refused(x, "mark(), a fourth", x.mark(), 7);
            c.refused(x, "mark(), a fourth again", x.mark(), 7);
            c.says("taken back to the latest MARK: how many there are left (8)");
            c.answered(x, "back()", x.back(), 2);
            c.answered(x, "back()", x.back(), 1);
            c.answered(x, "back()", x.back(), 0);
            c.refused(x, "back()", x.back(), 8);
            c.refused(x, "back() again", x.back(), 8);
        }
        c.answered(x, "mark()", x.mark(), 1);
        c.answered(x, "mark()", x.mark(), 2);
        c.answered(x, "back()", x.back(), 1);
        c.answered(x, "mark()", x.mark(), 2);
        c.answered(x, "mark()", x.mark(), 3);
        c.answered(x, "back()", x.back(), 2);
        c.answered(x, "mark()", x.mark(), 3);
        c.refused(x, "mark()", x.mark(), 7);
    }

    private static void noMarks(Check c) {
        c.says("8: no MARKS");
        SighChart x = Check.with(SEA);
        x.hear(1);
        c.refused(x, "back()", x.back(), 8);
        c.answered(x, "many(6), all stays", x.many(6), 3);
        c.answered(x, "many(3), all stays", x.many(3), 2);
        c.says("a DUCHY that is taken leaves the MARKS");
        c.answered(x, "mark()", x.mark(), 1);
        Check.duchy(x, "row s;");
        c.answered(x, "mark()", x.mark(), 2);
        Check.duchy(x, "row s;row q;");
        Check.years(x, "stop;");
        x.live(0);
        c.answered(x, "back()", x.back(), 1);
        c.answered(x, "back()", x.back(), 0);
        c.answered(x, "many(0)", x.many(0), 2);
    }

    private static void all(Check c, SighChart x) {
        c.many(x, 2, 3, 2, 2, 7, 5, 1, 5, 1);
        long[] sea = {0, 1, 2, 3, 0, 3};
        for (int cell = 0; cell < 6; cell++) {
            c.answered(x, "cell(" + cell + ", 0)", x.cell(cell, 0), sea[cell]);
            c.answered(x, "cell(" + cell + ", 1)", x.cell(cell, 1), cell == 0 ? 0 : 4);
        }
        c.answered(x, "traveller(0, 0)", x.traveller(0, 0), 3);
        c.answered(x, "traveller(1, 0)", x.traveller(1, 0), 9);
        c.refused(x, "traveller(2, 0)", x.traveller(2, 0), 2);
        c.telling(x, 0, 0, 0, 0, 2);
        c.telling(x, 1, 1, 5, 3, 5);
        c.refused(x, "telling(2, 0)", x.telling(2, 0), 2);
    }

    private static void changeAll(SighChart x) {
        for (int cell = 0; cell < 6; cell++) {
            x.change(cell, 2);
        }
        x.trust(0, 16);
        x.trust(1, 16);
        x.come(5);
        x.hear(1);
        x.hear(2);
        x.forget(0);
        x.tell(2, 3, 3, 9);
        x.tell(1, 0, 1, 8);
        x.moor(1);
        x.rule(15);
    }

    private static void theDuchyWithAll(Check c) {
        c.says("the DUCHY with all that became of it is kept as it is; all is taken back to the latest MARK");
        SighChart x = Check.with(SEA);
        x.mark();
        changeAll(x);
        c.answered(x, "back()", x.back(), 0);
        all(c, x);
        x.mark();
        Check.duchy(x, "row bbbb;row bbbb;row bbbb;odds 1;harbour 2 3;traveller zoe lies 1;traveller yan;traveller xen heard;"
                + "told zoe 0 0 tears;told zoe 0 1 tears;told yan 1 2 tears;told xen 1 3 tears;");
        c.answered(x, "back()", x.back(), 0);
        all(c, x);
        c.says("with its NAMES");
        c.answered(x, "ann and bob", Check.years(x, "hear ann;hear bob;"), 2);
        c.fault(x, "zoe", Check.years(x, "hear zoe;"), 3, 5);
        c.says("a MARK keeps what became of it ahead of it");
        SighChart y = Check.with(SEA);
        changeAll(y);
        y.mark();
        Check.duchy(y, SEA);
        y.back();
        c.many(y, 2, 3, 3, 4, 15, 1, 6, 3, 0);
        c.answered(y, "traveller(2, 0)", y.traveller(2, 0), 5);
        c.answered(y, "telling(3, 3)", y.telling(3, 3), 8);
        c.answered(y, "cell(5, 0)", y.cell(5, 0), 2);
    }

    private static void theYears(Check c) {
        c.says("the YEARS are kept as they are");
        SighChart x = Check.with(SEA);
        x.mark();
        Check.years(x, "loop 2;hear bob;forget bob;end;told ann 0 1 tears;stop;");
        x.mark();
        Check.years(x, "any;any;");
        x.mark();
        Check.duchy(x, "row s;");
        c.refused(x, "live(0)", x.live(0), 8);
        x.back();
        c.answered(x, "live(0)", x.live(0), 2);
        x.back();
        c.answered(x, "live(0)", x.live(0), 7);
        c.answered(x, "lived(0)", x.lived(0), 0);
        c.answered(x, "lived(1)", x.lived(1), 1);
        c.answered(x, "telling(2, 2)", x.telling(2, 2), 2);
        x.back();
        c.refused(x, "live(0), no YEARS then", x.live(0), 8);
        c.says("the YEARS are kept as they are: each STEP");
        String whole = "loop 2;told bob 0 1 tears;when heard bob;stop;end;when known > 0;when drawn 0 0 calm;sail 0 2;end;end;end;"
                + "when white 1 0;hear bob;end;when known < 2;stop;end;forget ann;when drawn 0 1 tears;forget bob;end;";
        for (int marks = 0; marks < 4; marks++) {
            SighChart kept = Check.with(SEA);
            Check.years(kept, whole);
            for (int i = 0; i < marks; i++) {
                kept.mark();
                Check.years(kept, "any;loop 9;any;any;end;when heard ann;any;end;");
                if (i > 0) {
                    kept.back();
                    kept.mark();
                }
                Check.duchy(kept, i % 2 == 0 ? SEA : "");
                kept.back();
            }
            c.answered(kept, "live(0) behind " + marks + " marks", kept.live(0), 17);
            c.lived(kept, 0, 2, 2, 0, 0);
            c.answered(kept, "many(6)", kept.many(6), 0);
        }
        c.says("YEARS without STEPS are YEARS, too");
        Check.years(x, "");
        x.mark();
        Check.duchy(x, SEA);
        x.back();
        c.answered(x, "live(0)", x.live(0), 0);
        c.says("what was LIVED is taken back");
        SighChart y = Check.with(SEA);
        Check.years(y, "forget ann;hear bob;any;any;any;");
        y.mark();
        y.live(17);
        y.back();
        all(c, y);
        c.answered(y, "live(17)", y.live(17), 5);
        c.answered(y, "lived(0)", y.lived(0), 0);
    }

    private static void theLatestIsGoneThen(Check c) {
        c.says("taken back to the latest MARK, which is gone then");
        SighChart x = new SighChart();
        for (int odds = 1; odds <= 3; odds++) {
            x.rule(odds);
            x.mark();
        }
        x.rule(9);
        c.refused(x, "mark(), a fourth", x.mark(), 7);
        c.answered(x, "many(4) behind a refused mark", x.many(4), 9);
        for (int odds = 3; odds >= 1; odds--) {
            c.answered(x, "back()", x.back(), odds - 1);
            c.answered(x, "many(4)", x.many(4), odds);
        }
        c.refused(x, "back()", x.back(), 8);
        c.answered(x, "many(4)", x.many(4), 1);
    }

    private static void ofItsOwn(Check c) {
        c.says("each MARK is of its own: what is done behind a back changes none");
        SighChart x = Check.with(SEA);
        Check.years(x, "any;any;any;");
        x.mark();
        x.mark();
        x.mark();
        for (int left = 2; left >= 0; left--) {
            changeAll(x);
            Check.years(x, "stop;");
            x.live(3);
            c.answered(x, "back()", x.back(), left);
            all(c, x);
            x.mark();
            changeAll(x);
            Check.duchy(x, "row s;");
            x.back();
            all(c, x);
        }
        c.answered(x, "live(0), of the YEARS that were kept", x.live(0), 3);
    }

    private static void whatIsNotTakenBack(Check c) {
        c.says("the DUCHY and the YEARS are taken back; the TRAYS, the tape, the FRACTION, the FAULT and what was LIVED are not");
        SighChart x = Check.with(SEA);
        x.tray(0, 0, 2);
        x.mark();
        x.write(0, 1, 44);
        x.tray(1, 3, 1);
        Check.years(x, "hear ann;any;");
        x.live(0);
        x.swear(1, 1);
        c.fault(x, "odds 99;", Check.duchy(x, "odds 99;"), 4, 5);
        x.feed(0x6F646473, 0x20333B20, 0x20202020, 0x20202020, 0x20202020);
        c.answered(x, "back()", x.back(), 0);
        c.answered(x, "read(0, 1)", x.read(0, 1), 44);
        c.answered(x, "read(1, 0)", x.read(1, 0), 0);
        c.due("top()", x.top(), 7);
        c.due("bottom()", x.bottom(), 16);
        c.due("fault(0)", x.fault(0), 4);
        c.due("fault(1)", x.fault(1), 5);
        c.answered(x, "lived(0)", x.lived(0), 1);
        c.answered(x, "lived(1)", x.lived(1), 1);
        c.due("feed", x.feed(0x20202020, 0x20202020, 0x20202020, 0x20202020, 0x20202020), 40);
        c.answered(x, "duchy(40)", x.duchy(40), 0);
        c.answered(x, "many(4)", x.many(4), 3);
    }

    private static void marksOfNothing(Check c) {
        c.says("a MARK of a DUCHY without a SEA, without TRAVELLERS, without YEARS");
        SighChart x = new SighChart();
        x.mark();
        Check.duchy(x, SEA);
        Check.years(x, "any;");
        x.back();
        c.many(x, 0, 0, 0, 0, 4, -1, 0, 0, 0);
        c.refused(x, "live(0)", x.live(0), 8);
        c.refused(x, "cell(0, 0)", x.cell(0, 0), 2);
        c.refused(x, "traveller(0, 0)", x.traveller(0, 0), 2);
        c.says("a MARK of the largest DUCHY");
        SighChart full = Check.with("row srbisr;".repeat(6) + "traveller a;traveller b;traveller d;traveller e;traveller f heard;");
        for (int i = 0; i < 12; i++) {
            full.tell(4, 24 + i, 3, i % 10);
        }
        Check.years(full, "any;".repeat(15) + "loop 1;end;".repeat(15));
        full.mark();
        Check.duchy(full, "row s;");
        full.back();
        c.answered(full, "many(7)", full.many(7), 24);
        c.answered(full, "cell(35, 0)", full.cell(35, 0), 1);
        c.answered(full, "telling(11, 1)", full.telling(11, 1), 35);
        c.answered(full, "telling(11, 3)", full.telling(11, 3), 1);
        c.answered(full, "many(2)", full.many(2), 5);
        c.answered(full, "live(0)", full.live(0), 30);
        c.answered(full, "lived(0)", full.lived(0), 15);
    }
}
