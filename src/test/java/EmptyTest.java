/** Every call on a new object, and on a DUCHY without a SEA, without TRAVELLERS, without TELLINGS. */
final class EmptyTest {
    public static void main(String[] args) {
        Check c = new Check("EmptyTest");
        c.says("a new object");
        nothing(c, new SighChart());
        c.says("an empty DUCHY");
        SighChart empty = Check.with("row srb;odds 9;traveller a heard;told a 0 0 calm;");
        Check.years(empty, "any;");
        c.answered(empty, "duchy(0)", empty.duchy(0), 0);
        nothing(c, empty);
        c.says("a DUCHY taken back to an empty one");
        SighChart back = new SighChart();
        back.mark();
        Check.duchy(back, "row srb;traveller a heard;");
        c.answered(back, "back()", back.back(), 0);
        nothing(c, back);
        withoutSea(c);
        withoutTravellers(c);
        withoutTellings(c);
        c.end();
    }

    private static void nothing(Check c, SighChart x) {
        counts(c, x, 0, 0, 0, 0, 4, -1, 0, 0, 0);
        noCells(c, x, 0);
        noTravellers(c, x, 0);
        noTellings(c, x);
        noYears(c, x);
        c.refused(x, "ask()", x.ask(), 8);
        c.answered(x, "liars()", x.liars(), 0);
        c.answered(x, "liarSet()", x.liarSet(), 0);
        c.answered(x, "clashes()", x.clashes(), 0);
        for (int h : new int[] {0, 60}) {
            c.answered(x, "plan(" + h + ")", x.plan(h), 0);
            c.answered(x, "planSet(" + h + ")", x.planSet(h), 0);
        }
        for (int n = 0; n <= 4; n++) {
            c.answered(x, "game(" + n + ")", x.game(n), 0);
            c.refused(x, "moveOf(" + n + ")", x.moveOf(n), n == 0 ? 5 : 8);
        }
        c.fraction(x, "swear(1, 1)", x.swear(1, 1), 1, 4);
    }

    private static void counts(Check c, SighChart x, long... many) {
        c.many(x, many);
        c.refused(x, "many(9)", x.many(9), 5);
    }

    private static void noCells(Check c, SighChart x, int traveller) {
        for (int cell = -1; cell <= 1; cell++) {
            c.refused(x, "cell(" + cell + ", 0)", x.cell(cell, 0), 2);
            c.refused(x, "votes(" + cell + ", 0)", x.votes(cell, 0), 2);
            c.refused(x, "tell(.., " + cell + ", 0, 0)", x.tell(traveller, cell, 0, 0), 2);
            c.refused(x, "change(" + cell + ", 0)", x.change(cell, 0), 2);
            c.refused(x, "moor(" + cell + ")", x.moor(cell), 2);
            c.denied(x, "oddsThat(" + cell + ", 0)", x.oddsThat(cell, 0), 2);
            c.refused(x, "likeliest(" + cell + ")", x.likeliest(cell), 2);
            c.refused(x, "way(" + cell + ")", x.way(cell), 2);
            c.refused(x, "wayLong(" + cell + ")", x.wayLong(cell), 2);
            c.refused(x, "wayAt(" + cell + ", 0)", x.wayAt(cell, 0), 2);
            c.denied(x, "comesIn(" + cell + ")", x.comesIn(cell), 2);
            c.refused(x, "sail(" + cell + ")", x.sail(cell), 2);
        }
    }

    private static void noTravellers(Check c, SighChart x, int cell) {
        for (int who = -1; who <= 1; who++) {
            c.refused(x, "traveller(" + who + ", 0)", x.traveller(who, 0), 2);
            c.refused(x, "hear(" + who + ")", x.hear(who), 2);
            c.refused(x, "forget(" + who + ")", x.forget(who), 2);
            c.refused(x, "tell(" + who + ", .., 0, 0)", x.tell(who, cell, 0, 0), 2);
            c.refused(x, "trust(" + who + ", 0)", x.trust(who, 0), 2);
            c.denied(x, "share(" + who + ")", x.share(who), 2);
        }
    }

    private static void noTellings(Check c, SighChart x) {
        for (int telling = -1; telling <= 1; telling++) {
            c.refused(x, "telling(" + telling + ", 0)", x.telling(telling, 0), 2);
        }
    }

    private static void noYears(Check c, SighChart x) {
        c.refused(x, "live(0)", x.live(0), 8);
        c.denied(x, "mean(0, 1)", x.mean(0, 1), 8);
    }

    private static void withoutSea(Check c) {
        c.says("a DUCHY without a SEA");
        SighChart x = Check.with("traveller a lies 3 heard;traveller b;odds 2;");
        counts(c, x, 0, 0, 2, 0, 2, -1, 1, 0, 0);
        noCells(c, x, 0);
        noTellings(c, x);
        noYears(c, x);
        c.refused(x, "ask()", x.ask(), 8);
        c.answered(x, "hear(1)", x.hear(1), 0);
        c.refused(x, "hear(1)", x.hear(1), 9);
        c.answered(x, "forget(1)", x.forget(1), 0);
        c.refused(x, "forget(1)", x.forget(1), 9);
        c.answered(x, "trust(0, 4)", x.trust(0, 4), 3);
        c.denied(x, "share(0)", x.share(0), 8);
        c.answered(x, "come(1)", x.come(1), 2);
        c.answered(x, "liars()", x.liars(), 0);
        c.answered(x, "liarSet()", x.liarSet(), 0);
        c.answered(x, "plan(60)", x.plan(60), 0);
        c.answered(x, "planSet(60)", x.planSet(60), 0);
        c.answered(x, "game(4)", x.game(4), 0);
        c.answered(x, "moveOf(4): all are as good, nothing comes last", x.moveOf(4), 1);
        x.tray(0, 0, 0);
        c.answered(x, "copyChart(0)", x.copyChart(0), 0);
        c.answered(x, "any, hear b", Check.years(x, "any;hear b;"), 2);
        c.answered(x, "live(0)", x.live(0), 2);
        c.answered(x, "lived(0): any without CELLS", x.lived(0), 1);
        c.fraction(x, "mean(0, 2)", x.mean(0, 2), 0, 1);
    }

    private static void withoutTravellers(Check c) {
        c.says("a DUCHY without TRAVELLERS");
        SighChart x = Check.with("row sr;row bi;");
        counts(c, x, 2, 2, 0, 0, 4, 0, 0, 4, 0);
        noTravellers(c, x, 0);
        noTellings(c, x);
        noYears(c, x);
        untold(c, x);
        c.answered(x, "planSet(60)", x.planSet(60), 0);
        c.answered(x, "game(4)", x.game(4), 0);
        c.refused(x, "moveOf(4)", x.moveOf(4), 8);
        c.answered(x, "any", Check.years(x, "any;sail 1 1;"), 2);
        c.answered(x, "live(0)", x.live(0), 2);
        c.answered(x, "lived(0): any without TRAVELLERS", x.lived(0), 1);
        c.answered(x, "lived(2)", x.lived(2), 1);
        c.answered(x, "come(3)", x.come(3), 0);
        c.answered(x, "tell(0, 3, 3, 1)", x.tell(0, 3, 3, 1), 0);
    }

    private static void withoutTellings(Check c) {
        c.says("a DUCHY without TELLINGS");
        SighChart x = Check.with("row sr;row bi;traveller a;traveller b heard;");
        counts(c, x, 2, 2, 2, 0, 4, 0, 2, 4, 0);
        noTellings(c, x);
        noYears(c, x);
        untold(c, x);
        for (int who = 0; who < 2; who++) {
            c.answered(x, "traveller(" + who + ", 2)", x.traveller(who, 2), 0);
            c.answered(x, "traveller(" + who + ", 3)", x.traveller(who, 3), 0);
            c.denied(x, "share(" + who + ")", x.share(who), 8);
        }
        c.denied(x, "share(2)", x.share(2), 2);
        c.answered(x, "game(4)", x.game(4), 0);
        c.answered(x, "moveOf(4)", x.moveOf(4), 0);
        c.answered(x, "hear(0)", x.hear(0), 0);
        c.answered(x, "forget(0)", x.forget(0), 0);
    }

    private static void untold(Check c, SighChart x) {
        for (int cell = 0; cell < 4; cell++) {
            long[] of = {cell, 4, 6, 0, 0};
            for (int what = 0; what < 5; what++) {
                c.answered(x, "cell(" + cell + ", " + what + ")", x.cell(cell, what), of[what]);
            }
            for (int kind = 0; kind < 4; kind++) {
                c.answered(x, "votes(" + cell + ", " + kind + ")", x.votes(cell, kind), 0);
                c.fraction(x, "oddsThat(" + cell + ", " + kind + ")", x.oddsThat(cell, kind), 1, 4);
            }
            c.answered(x, "likeliest(" + cell + ")", x.likeliest(cell), 0);
        }
        c.answered(x, "ask()", x.ask(), 0);
        c.answered(x, "liars()", x.liars(), 0);
        c.answered(x, "liarSet()", x.liarSet(), 0);
        c.answered(x, "clashes()", x.clashes(), 0);
        c.answered(x, "way(3)", x.way(3), 12);
        c.answered(x, "wayAt(3, 1)", x.wayAt(3, 1), 1);
        c.fraction(x, "comesIn(3)", x.comesIn(3), 25, 64);
        c.answered(x, "sail(3), wrecked at 1", x.sail(3), 1);
        c.answered(x, "plan(60)", x.plan(60), 4);
        x.tray(0, 1, 4);
        c.answered(x, "copyChart(0)", x.copyChart(0), 4);
        c.answered(x, "read(0, 3)", x.read(0, 3), 4);
    }
}
