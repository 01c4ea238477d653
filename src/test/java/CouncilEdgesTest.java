/** The bounds of promises 38 to 41, a sentence of the document at a time. */
final class CouncilEdgesTest {
    private static final int MIN = Integer.MIN_VALUE;
    private static final int MAX = Integer.MAX_VALUE;

    public static void main(String[] args) {
        Check c = new Check("CouncilEdgesTest");
        hoursFromZeroToSixty(c);
        hoursTogetherAtMost(c);
        whoWasNotHeard(c);
        theLeastAsANumber(c);
        hearingMayWhiten(c);
        plansWithoutAnything(c);
        turnsFromZeroToFour(c);
        orNothing(c);
        creditBelowZero(c);
        theFirstLessTheOther(c);
        firstMoves(c);
        gamesWithoutAnything(c);
        nothingStays(c);
        asItIsNow(c);
        c.end();
    }

    private static void plans(Check c, SighChart x, int h, int white, int set) {
        c.answered(x, "plan(" + h + ")", x.plan(h), white);
        c.answered(x, "planSet(" + h + ")", x.planSet(h), set);
    }

    private static void hoursFromZeroToSixty(Check c) {
        c.says("5: h 0 to 60");
        SighChart x = Check.with("row ss;traveller a;told a 0 0 calm;");
        for (int no : new int[] {MIN, -1, 61, 100, MAX}) {
            c.refused(x, "plan(" + no + ")", x.plan(no), 5);
            c.refused(x, "planSet(" + no + ")", x.planSet(no), 5);
        }
        plans(c, x, 0, 2, 0);
        plans(c, x, 1, 1, 1);
        plans(c, x, 59, 1, 1);
        plans(c, x, 60, 1, 1);
    }

    private static void hoursTogetherAtMost(Check c) {
        c.says("each TRAVELLER takes as many HOURS as he has TELLINGS; h HOURS together at most");
        SighChart x = Check.with("row ssssss;traveller a;traveller b;traveller d;told a 0 0 calm;told b 0 1 calm;told b 0 2 calm;"
                + "told d 0 3 calm;told d 0 4 calm;told d 0 5 calm;");
        plans(c, x, 0, 6, 0);
        plans(c, x, 1, 5, 1);
        plans(c, x, 2, 4, 2);
        plans(c, x, 3, 3, 3);
        plans(c, x, 4, 2, 5);
        plans(c, x, 5, 1, 6);
        plans(c, x, 6, 0, 7);
        plans(c, x, 7, 0, 7);
        c.says("all TELLINGS take an HOUR each: of one CELL, too");
        SighChart y = Check.with("row ss;traveller a;traveller b;told a 0 0 calm;told a 0 0 calm;told a 0 0 fear;told b 0 1 calm;");
        plans(c, y, 2, 1, 2);
        plans(c, y, 3, 1, 1);
        plans(c, y, 4, 0, 3);
        c.says("12 TELLINGS take 12 HOURS");
        SighChart twelve = Check.with("row ssssss;row ssssss;traveller a;traveller b;");
        for (int cell = 0; cell < 12; cell++) {
            twelve.tell(0, cell, 2, 0);
        }
        plans(c, twelve, 11, 12, 0);
        plans(c, twelve, 12, 0, 1);
    }

    private static void whoWasNotHeard(Check c) {
        c.says("each TRAVELLER who was not HEARD; the set with whom, HEARD besides, the fewest CELLS are WHITE");
        SighChart x = Check.with("row ssss;traveller a heard;traveller b;traveller d heard;traveller e;"
                + "told a 0 0 calm;told a 0 1 calm;told b 0 2 calm;told d 0 2 calm;told e 0 3 calm;");
        plans(c, x, 0, 1, 0);
        plans(c, x, 1, 0, 8);
        plans(c, x, 60, 0, 8);
        x.forget(0);
        plans(c, x, 1, 2, 8);
        plans(c, x, 2, 1, 1);
        plans(c, x, 3, 0, 9);
        for (int who = 0; who < 4; who++) {
            x.hear(who);
        }
        plans(c, x, 0, 0, 0);
        plans(c, x, 60, 0, 0);
    }

    private static void theLeastAsANumber(Check c) {
        c.says("of several sets the least as a number");
        SighChart x = Check.with("row ss;traveller a;traveller b;traveller d;traveller e;traveller f;"
                + "told b 0 0 calm;told d 0 0 calm;told e 0 1 calm;told f 0 1 calm;");
        plans(c, x, 0, 2, 0);
        plans(c, x, 1, 1, 2);
        plans(c, x, 2, 0, 10);
        plans(c, x, 60, 0, 10);
        c.says("the least as a number, also where it has more TRAVELLERS or more HOURS");
        SighChart y = Check.with("row ss;traveller a;traveller b;traveller d;told a 0 0 calm;told b 0 1 calm;told d 0 0 calm;told d 0 1 calm;");
        plans(c, y, 2, 0, 3);
        SighChart z = Check.with("row ss;traveller a;traveller b;told a 0 0 calm;told a 0 0 calm;told b 0 0 calm;");
        plans(c, z, 1, 1, 2);
        plans(c, z, 2, 1, 1);
        c.says("one without TELLINGS takes no HOURS, and is not in the least set");
        SighChart none = Check.with("row s;traveller a;traveller b;told b 0 0 calm;");
        plans(c, none, 0, 1, 0);
        plans(c, none, 1, 0, 2);
        c.says("the greatest set");
        SighChart all = Check.with("row sssss;traveller a;traveller b;traveller d;traveller e;traveller f;"
                + "told a 0 0 calm;told b 0 1 calm;told d 0 2 calm;told e 0 3 calm;told f 0 4 calm;");
        plans(c, all, 4, 1, 15);
        plans(c, all, 5, 0, 31);
    }

    private static void hearingMayWhiten(Check c) {
        c.says("the fewest CELLS are WHITE: none more where all who are left would clash");
        SighChart x = Check.with("row ss;traveller a heard;traveller b;traveller d;told a 0 0 calm;told b 0 0 fear;told b 0 0 tears;told d 0 0 fear;");
        plans(c, x, 60, 1, 0);
        x.tell(2, 1, 3, 0);
        // d alone draws the second and whitens the first; d and b draw both
        plans(c, x, 2, 1, 0);
        plans(c, x, 4, 0, 6);
    }

    private static void plansWithoutAnything(Check c) {
        c.says("without a SEA, TRAVELLERS, TELLINGS");
        SighChart none = new SighChart();
        plans(c, none, 0, 0, 0);
        plans(c, none, 60, 0, 0);
        SighChart sea = Check.with("row ssss;");
        plans(c, sea, 60, 4, 0);
        SighChart travellers = Check.with("traveller a;traveller b heard;");
        plans(c, travellers, 60, 0, 0);
        SighChart both = Check.with("row ssss;traveller a;traveller b heard;");
        plans(c, both, 60, 4, 0);
        c.refused(none, "plan(61)", none.plan(61), 5);
        c.refused(none, "planSet(-1)", none.planSet(-1), 5);
    }

    private static void turnsFromZeroToFour(Check c) {
        SighChart x = Check.with("row ssss;traveller a;traveller b;told a 0 0 calm;told b 0 1 fear;told b 0 2 fear;");
        c.says("GAME of n turns (0 to 4); 5");
        for (int no : new int[] {MIN, -1, 5, 6, MAX}) {
            c.refused(x, "game(" + no + ")", x.game(no), 5);
        }
        c.answered(x, "game(0)", x.game(0), 0);
        c.answered(x, "game(1)", x.game(1), 2);
        c.answered(x, "game(2)", x.game(2), 1);
        c.answered(x, "game(3)", x.game(3), 1);
        c.answered(x, "game(4)", x.game(4), 1);
        c.says("MOVE (5: n 0, too)");
        for (int no : new int[] {MIN, -1, 0, 5, 6, MAX}) {
            c.refused(x, "moveOf(" + no + ")", x.moveOf(no), 5);
        }
        for (int n = 1; n <= 4; n++) {
            c.answered(x, "moveOf(" + n + ")", x.moveOf(n), 1);
        }
        c.says("four turns: each HEARS one, the best first");
        SighChart four = Check.with("row ssssss;row ssssss;traveller a;traveller b;traveller d;traveller e;traveller f;"
                + "told a 0 0 calm;told b 0 1 calm;told b 0 2 calm;told d 0 3 calm;told d 0 4 calm;told d 0 5 calm;"
                + "told e 1 0 calm;told e 1 1 calm;told e 1 2 calm;told e 1 3 calm;told f 1 4 calm;");
        int[] credit = {0, 4, 1, 3, 2};
        for (int n = 0; n <= 4; n++) {
            c.answered(four, "game(" + n + ")", four.game(n), credit[n]);
        }
        for (int n = 1; n <= 4; n++) {
            c.answered(four, "moveOf(" + n + ")", four.moveOf(n), 3);
        }
    }

    private static void orNothing(Check c) {
        c.says("one HEARS a TRAVELLER who was not HEARD, or nothing");
        SighChart x = Check.with("row ss;traveller a heard;traveller b;told a 0 0 calm;told b 0 0 fear;");
        for (int n = 1; n <= 4; n++) {
            c.answered(x, "game(" + n + "): to hear b is a loss", x.game(n), 0);
        }
        c.refused(x, "moveOf(1): nothing", x.moveOf(1), 8);
        c.says("8: nothing; all are HEARD");
        SighChart heard = Check.with("row ss;traveller a heard;traveller b heard;told a 0 0 calm;");
        for (int n = 1; n <= 4; n++) {
            c.answered(heard, "game(" + n + ")", heard.game(n), 0);
            c.refused(heard, "moveOf(" + n + ")", heard.moveOf(n), 8);
        }
        c.says("nothing comes last: as good a TRAVELLER comes ahead of it");
        SighChart even = Check.with("row ss;traveller a heard;traveller b;traveller d;told a 0 0 calm;told b 0 0 calm;");
        for (int n = 1; n <= 4; n++) {
            c.answered(even, "moveOf(" + n + ")", even.moveOf(n), 1);
        }
    }

    private static void creditBelowZero(Check c) {
        c.says("fewer: below 0");
        SighChart x = Check.with("row ss;traveller a heard;traveller b;told a 0 0 calm;told a 0 1 calm;told b 0 0 fear;told b 0 1 fear;");
        c.answered(x, "game(4): to hear b whitens two, so none does", x.game(4), 0);
        c.refused(x, "moveOf(4)", x.moveOf(4), 8);
        SighChart y = Check.with("row sss;traveller a;traveller b;told a 0 0 calm;told b 0 0 fear;told b 0 1 calm;told b 0 2 calm;");
        // b first: 3, then the other does nothing; a first: 1, then b draws two and whitens one.
        c.answered(y, "game(2)", y.game(2), 3);
        c.answered(y, "moveOf(2)", y.moveOf(2), 1);
        c.says("STATUS tells NONE from -1");
        // a draws one; behind a, b draws two; behind b, a draws three; b alone draws none.
        SighChart z = Check.with("row sss;traveller a;traveller b;traveller d heard;told a 0 0 calm;"
                + "told d 0 1 calm;told d 0 1 fear;told a 0 1 tears;told b 0 1 tears;"
                + "told d 0 2 calm;told d 0 2 fear;told a 0 2 tears;told b 0 2 tears;");
        c.answered(z, "game(1)", z.game(1), 1);
        c.answered(z, "moveOf(1)", z.moveOf(1), 0);
        c.answered(z, "game(2): a and then b, or nothing and then a", z.game(2), -1);
        c.answered(z, "moveOf(2): nothing comes last", z.moveOf(2), 0);
        c.answered(z, "game(3): nothing, and the other is where the first was by two turns", z.game(3), 1);
        c.refused(z, "moveOf(3): nothing is best", z.moveOf(3), 8);
        c.answered(z, "game(4)", z.game(4), -1);
        c.answered(z, "moveOf(4)", z.moveOf(4), 0);
        c.refused(z, "game(5)", z.game(5), 5);
    }

    private static void theFirstLessTheOther(Check c) {
        c.says("the credit of the first less that of the other, by best play");
        SighChart even = Check.with("row ss;traveller a;traveller b;told a 0 0 calm;told b 0 1 calm;");
        c.answered(even, "game(1)", even.game(1), 1);
        c.answered(even, "game(2)", even.game(2), 0);
        c.answered(even, "game(3)", even.game(3), 0);
        c.answered(even, "moveOf(2)", even.moveOf(2), 0);
        SighChart d = Check.with("row ss;traveller a heard;traveller b;traveller d;told a 0 0 calm;told a 0 1 calm;"
                + "told b 0 0 fear;told b 0 1 fear;told d 0 0 calm;told d 0 1 calm;");
        // To hear b first is a loss of two, and d behind it a gain of two for the other; d first leaves b nothing.
        c.answered(d, "game(2)", d.game(2), 0);
        c.answered(d, "moveOf(2)", d.moveOf(2), 2);
        SighChart y = Check.with("row ssss;traveller a;traveller b;told a 0 0 calm;told b 0 0 fear;told a 0 1 calm;told b 0 2 calm;told b 0 3 calm;");
        // b first: 3, then a draws one and whitens one; a first: 2, then b draws two and whitens one.
        c.answered(y, "game(1)", y.game(1), 3);
        c.answered(y, "game(2)", y.game(2), 3);
        c.answered(y, "moveOf(2)", y.moveOf(2), 1);
        SighChart loss = Check.with("row s;traveller a heard;traveller b;traveller d;told a 0 0 calm;told b 0 0 fear;told d 0 0 fear;");
        // b makes it white, which is a loss of one, and d makes it a rock, which is a gain of one for the other.
        c.answered(loss, "game(2)", loss.game(2), 0);
        c.answered(loss, "game(3)", loss.game(3), 0);
        c.refused(loss, "moveOf(1)", loss.moveOf(1), 8);
        c.refused(loss, "moveOf(2)", loss.moveOf(2), 8);
    }

    private static void firstMoves(Check c) {
        c.says("MOVE: the first's first TRAVELLER, of all that are as good the first");
        SighChart x = Check.with("row ssss;traveller a;traveller b;traveller d;traveller e heard;told b 0 1 calm;told d 0 2 calm;told e 0 3 calm;");
        c.answered(x, "moveOf(1)", x.moveOf(1), 1);
        x.hear(1);
        c.answered(x, "moveOf(1)", x.moveOf(1), 2);
        x.hear(2);
        c.answered(x, "moveOf(1), as good as nothing", x.moveOf(1), 0);
        x.hear(0);
        c.refused(x, "moveOf(1)", x.moveOf(1), 8);
        SighChart last = Check.with("row s;traveller a;traveller b;traveller d;traveller e;traveller f;told f 0 0 calm;");
        c.answered(last, "moveOf(1), the last", last.moveOf(1), 4);
        c.answered(last, "moveOf(4), the last", last.moveOf(4), 4);
        c.answered(last, "game(4)", last.game(4), 1);
    }

    private static void gamesWithoutAnything(Check c) {
        c.says("without a SEA, TRAVELLERS, TELLINGS");
        SighChart none = new SighChart();
        SighChart sea = Check.with("row ssss;");
        SighChart travellers = Check.with("traveller a heard;traveller b;");
        SighChart both = Check.with("row ssss;traveller a heard;traveller b;");
        for (int n = 0; n <= 4; n++) {
            c.answered(none, "game(" + n + ")", none.game(n), 0);
            c.answered(sea, "game(" + n + ")", sea.game(n), 0);
            c.answered(travellers, "game(" + n + ")", travellers.game(n), 0);
            c.answered(both, "game(" + n + ")", both.game(n), 0);
            if (n > 0) {
                c.refused(none, "moveOf(" + n + ")", none.moveOf(n), 8);
                c.refused(sea, "moveOf(" + n + ")", sea.moveOf(n), 8);
                c.answered(travellers, "moveOf(" + n + ")", travellers.moveOf(n), 1);
                c.answered(both, "moveOf(" + n + ")", both.moveOf(n), 1);
            }
        }
        c.refused(none, "game(5)", none.game(5), 5);
        c.refused(none, "moveOf(0): 5 ahead of 8", none.moveOf(0), 5);
        c.refused(none, "moveOf(5): 5 ahead of 8", none.moveOf(5), 5);
    }

    private static void nothingStays(Check c) {
        c.says("plans and games change nothing");
        SighChart x = Check.with("row ssss;traveller a;traveller b heard;traveller d;told a 0 0 calm;told b 0 1 fear;told d 0 2 fear;");
        for (int n = 1; n <= 4; n++) {
            x.plan(n);
            x.planSet(n);
            x.game(n);
            x.moveOf(n);
        }
        c.answered(x, "many(6)", x.many(6), 2);
        c.answered(x, "many(7)", x.many(7), 3);
        c.answered(x, "many(3)", x.many(3), 3);
    }

    /** Each is asked first on an object of its own, and again when more was told, or heard. */
    private static void asItIsNow(Check c) {
        c.says("plans and games are of what is told and HEARD now");
        String duchy = "row ssss;traveller a;traveller b;traveller d;told a 0 0 calm;told b 0 1 fear;told b 0 2 fear;";
        SighChart plan = Check.with(duchy);
        c.answered(plan, "plan(2)", plan.plan(2), 2);
        SighChart set = Check.with(duchy);
        c.answered(set, "planSet(2)", set.planSet(2), 2);
        SighChart game = Check.with(duchy);
        c.answered(game, "game(3)", game.game(3), 1);
        SighChart move = Check.with(duchy);
        c.answered(move, "moveOf(3)", move.moveOf(3), 1);
        for (SighChart x : new SighChart[] {plan, set, game, move}) {
            x.hear(1);
            x.tell(2, 1, 0, 0);
            x.tell(2, 3, 0, 0);
            x.tell(0, 3, 1, 0);
            x.tell(0, 3, 1, 0);
        }
        c.answered(plan, "plan(3)", plan.plan(3), 0);
        c.answered(set, "planSet(3)", set.planSet(3), 1);
        c.answered(set, "planSet(2)", set.planSet(2), 0);
        c.answered(game, "game(1)", game.game(1), 2);
        c.answered(move, "moveOf(1)", move.moveOf(1), 0);
        Check.duchy(set, "row ss;traveller a heard;traveller b heard;traveller d;told d 0 1 calm;");
        c.answered(set, "planSet(3), of another DUCHY", set.planSet(3), 4);
        c.says("of the TRAVELLERS there are now: fewer than there were");
        Check.duchy(plan, "row ss;traveller a;told a 0 1 calm;");
        Check.duchy(set, "row ss;traveller a;traveller b heard;told a 0 1 calm;");
        c.answered(plan, "plan(60)", plan.plan(60), 1);
        c.answered(plan, "planSet(60)", plan.planSet(60), 1);
        c.answered(set, "planSet(60)", set.planSet(60), 1);
        c.answered(set, "plan(60)", set.plan(60), 1);
        Check.duchy(set, "row ssss;traveller a;traveller b;told a 0 1 calm;");
        set.come(0);
        for (int cell = 0; cell < 4; cell++) {
            set.tell(2, cell, 0, 0);
        }
        c.answered(set, "planSet(60)", set.planSet(60), 4);
        Check.duchy(set, "row ss;traveller a;traveller b;told a 0 1 calm;");
        c.answered(set, "planSet(60)", set.planSet(60), 1);
        Check.duchy(move, "row ss;traveller a heard;traveller b heard;traveller d;told d 0 1 calm;");
        c.answered(move, "moveOf(3), of another DUCHY", move.moveOf(3), 2);
    }
}
