/** Promises 2 to 4 of fractions, and 27 to 32, 42, 43. */
final class OddsTest {
    public static void main(String[] args) {
        Check check = new Check("OddsTest");
        kinds(check);
        asking(check);
        liars(check);
        swearing(check);
        sharing(check);
        check.end();
    }

    private static void kinds(Check c) {
        SighChart x = Check.with("row sss;traveller a lies 4 heard;traveller b lies 12 heard;traveller d;"
                + "told a 0 0 fear;told a 0 1 sigh;told b 0 1 sigh;told d 0 2 sigh;");
        c.fraction(x, "oddsThat(0, 1)", x.oddsThat(0, 1), 3, 4);
        c.fraction(x, "oddsThat(0, 3)", x.oddsThat(0, 3), 1, 12);
        // 12/16 * 4/16 against three times 4/48 * 12/48
        c.fraction(x, "oddsThat(1, 3)", x.oddsThat(1, 3), 3, 4);
        c.fraction(x, "oddsThat(2, 3), told by one not heard", x.oddsThat(2, 3), 1, 4);
        c.answered(x, "likeliest(0)", x.likeliest(0), 1);
        c.answered(x, "likeliest(1)", x.likeliest(1), 3);
        c.answered(x, "likeliest(2)", x.likeliest(2), 0);
        x.trust(0, 0);
        x.trust(1, 16);
        c.fraction(x, "oddsThat(0, 1)", x.oddsThat(0, 1), 1, 1);
        c.fraction(x, "oddsThat(0, 0)", x.oddsThat(0, 0), 0, 1);
        c.denied(x, "oddsThat(1, 3)", x.oddsThat(1, 3), 9);
        c.due("top() stays", x.top(), 0);
        c.due("bottom() stays", x.bottom(), 1);
        c.refused(x, "likeliest(1)", x.likeliest(1), 9);
        c.denied(x, "oddsThat(3, 4)", x.oddsThat(3, 4), 2);
        c.denied(x, "oddsThat(-1, 0)", x.oddsThat(-1, 0), 2);
        c.denied(x, "oddsThat(1, 4)", x.oddsThat(1, 4), 5);
        c.denied(x, "oddsThat(1, -1)", x.oddsThat(1, -1), 5);
        c.refused(x, "likeliest(3)", x.likeliest(3), 2);
        c.refused(x, "likeliest(-1)", x.likeliest(-1), 2);
        SighChart y = Check.with("row s;traveller a lies 5 heard;" + "told a 0 0 calm;".repeat(4) + "told a 0 0 fear;");
        // 33^4 * 5, 5^4 * 33, twice 5^5
        long all = 1185921L * 5 + 625L * 33 + 2 * 3125L;
        c.fraction(y, "oddsThat(0, 0)", y.oddsThat(0, 0), 1185921L * 5 / 5, all / 5);
    }

    private static void asking(Check c) {
        SighChart x = new SighChart();
        c.refused(x, "ask()", x.ask(), 8);
        x = Check.with("row sss;traveller a lies 2 heard;traveller b lies 6 heard;traveller n heard;"
                + "told a 0 0 fear;told b 0 1 sigh;told b 0 2 calm;");
        c.answered(x, "ask()", x.ask(), 1);
        x.tell(2, 1, 0, 0);
        x.tell(2, 1, 1, 0);
        c.answered(x, "ask(), no kind can be of cell 1", x.ask(), 2);
        x.tell(2, 2, 0, 0);
        c.answered(x, "ask()", x.ask(), 0);
        x.tell(2, 0, 0, 0);
        c.answered(x, "ask(), all are sure", x.ask(), 0);
        x.tell(2, 0, 1, 0);
        x.tell(2, 2, 1, 0);
        c.refused(x, "ask()", x.ask(), 8);
    }

    private static void liars(Check c) {
        SighChart x = Check.with("row ss;traveller a;traveller b;traveller d heard;traveller e;"
                + "told a 0 0 fear;told b 0 0 calm;told d 0 0 fear;told e 0 1 fear;");
        c.answered(x, "liars()", x.liars(), 1);
        c.answered(x, "liarSet()", x.liarSet(), 2);
        c.answered(x, "clashes()", x.clashes(), 2);
        x.tell(3, 1, 2, 0);
        c.answered(x, "liars(), one against himself", x.liars(), 2);
        c.answered(x, "liarSet()", x.liarSet(), 10);
        c.answered(x, "clashes()", x.clashes(), 3);
        SighChart y = Check.with("row s;traveller a;traveller b;told a 0 0 fear;told b 0 0 calm;");
        c.answered(y, "liarSet(), of two the least", y.liarSet(), 1);
        SighChart z = Check.with("row s;traveller a;traveller b;traveller d;told a 0 0 fear;told b 0 0 calm;told d 0 0 sigh;");
        c.answered(z, "liarSet(), of three two", z.liarSet(), 3);
        c.answered(z, "liars()", z.liars(), 2);
        SighChart one = Check.with("row s;traveller a;traveller b;traveller d;"
                + "told b 0 0 fear;told a 0 0 calm;told b 0 0 fear;told d 0 0 calm;");
        c.answered(one, "liarSet(), one with a greater number", one.liarSet(), 2);
    }

    private static void swearing(Check c) {
        SighChart x = new SighChart();
        c.denied(x, "swear(-1, 0)", x.swear(-1, 0), 5);
        c.denied(x, "swear(13, 0)", x.swear(13, 0), 5);
        c.denied(x, "swear(0, -1)", x.swear(0, -1), 5);
        c.denied(x, "swear(0, 13)", x.swear(0, 13), 5);
        c.fraction(x, "swear(0, 0)", x.swear(0, 0), 1, 1);
        c.fraction(x, "swear(0, 1)", x.swear(0, 1), 0, 1);
        c.fraction(x, "swear(2, 1)", x.swear(2, 1), 7, 16);
        c.fraction(x, "swear(2, 2)", x.swear(2, 2), 1, 16);
        c.fraction(x, "swear(3, 2)", x.swear(3, 2), 5, 32);
        x.rule(16);
        c.fraction(x, "swear(12, 12)", x.swear(12, 12), 1, 1);
        x.rule(0);
        c.fraction(x, "swear(12, 1)", x.swear(12, 1), 0, 1);
        c.fraction(x, "swear(12, 0)", x.swear(12, 0), 1, 1);
        x.rule(15);
        c.fraction(x, "swear(12, 12)", x.swear(12, 12), 129746337890625L, 281474976710656L);
    }

    private static void sharing(Check c) {
        SighChart x = Check.with("row ss;traveller a heard;traveller b;traveller d;told b 0 0 calm;told b 0 1 fear;told a 0 0 sigh;told b 0 0 sigh;");
        c.fraction(x, "share(0)", x.share(0), 1, 4);
        c.fraction(x, "share(1)", x.share(1), 3, 4);
        c.fraction(x, "share(2)", x.share(2), 0, 1);
        c.denied(x, "share(3)", x.share(3), 2);
        c.denied(x, "share(-1)", x.share(-1), 2);
        SighChart y = Check.with("traveller a;");
        c.denied(y, "share(0)", y.share(0), 8);
        c.denied(y, "share(1)", y.share(1), 2);
    }
}
