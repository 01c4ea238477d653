import java.math.BigInteger;
import java.util.Arrays;

/** The bounds of promises 27 to 32, 42 and 43, and of FRACTIONS, a sentence of the document at a time. */
final class OddsEdgesTest {
    private static final int MIN = Integer.MIN_VALUE;
    private static final int MAX = Integer.MAX_VALUE;

    public static void main(String[] args) {
        Check c = new Check("OddsEdgesTest");
        withoutTellings(c);
        byOneTelling(c);
        byTheHeardAlone(c);
        bySeveral(c);
        noKindCanBe(c);
        refusedOdds(c);
        likeliestKinds(c);
        whichToAsk(c);
        fewestLiars(c);
        heardOrNot(c);
        clashingPairs(c);
        swearing(c);
        sharing(c);
        fractions(c);
        c.end();
    }

    private static void withoutTellings(Check c) {
        c.says("ahead of all each KIND is as likely");
        SighChart x = Check.with("row srbi;traveller a heard;");
        for (int cell = 0; cell < 4; cell++) {
            for (int kind = 0; kind < 4; kind++) {
                c.fraction(x, "oddsThat(" + cell + ", " + kind + ")", x.oddsThat(cell, kind), 1, 4);
            }
            c.answered(x, "likeliest(" + cell + ")", x.likeliest(cell), 0);
        }
        c.answered(x, "ask()", x.ask(), 0);
    }

    private static void byOneTelling(Check c) {
        c.says("true but by as many sixteenths as he LIES by, then each other KIND is told as likely");
        for (int lies = 0; lies <= 16; lies++) {
            for (int told = 0; told < 4; told++) {
                SighChart x = Check.with("row ss;traveller a heard;traveller b lies " + lies + " heard;");
                x.tell(1, 1, told, 0);
                for (int kind = 0; kind < 4; kind++) {
                    BigInteger part = BigInteger.valueOf(kind == told ? 48 - 3 * lies : lies);
                    reduced(c, x, "LIES by " + lies + ": oddsThat(1, " + kind + ")", x.oddsThat(1, kind), part, BigInteger.valueOf(48));
                }
            }
        }
    }

    private static void reduced(Check c, SighChart x, String call, boolean got, BigInteger part, BigInteger whole) {
        BigInteger divisor = part.gcd(whole);
        c.fraction(x, call, got, part.divide(divisor).longValueExact(), whole.divide(divisor).longValueExact());
    }

    private static void byTheHeardAlone(Check c) {
        c.says("each TELLING of it by a HEARD TRAVELLER");
        SighChart x = Check.with("row sss;traveller a;traveller b lies 4 heard;told a 0 1 fear;told b 0 2 sigh;");
        c.fraction(x, "oddsThat(1, 1), told by one not HEARD", x.oddsThat(1, 1), 1, 4);
        c.fraction(x, "oddsThat(2, 3)", x.oddsThat(2, 3), 3, 4);
        c.fraction(x, "oddsThat(0, 3), told of another CELL", x.oddsThat(0, 3), 1, 4);
        x.hear(0);
        c.fraction(x, "oddsThat(1, 1), HEARD then", x.oddsThat(1, 1), 1, 1);
        c.fraction(x, "oddsThat(1, 0), HEARD then", x.oddsThat(1, 0), 0, 1);
        x.trust(0, 8);
        c.fraction(x, "oddsThat(1, 1), trusted less", x.oddsThat(1, 1), 1, 2);
        c.fraction(x, "oddsThat(1, 0), trusted less", x.oddsThat(1, 0), 1, 6);
        x.forget(0);
        c.fraction(x, "oddsThat(1, 1), forgotten", x.oddsThat(1, 1), 1, 4);
    }

    private static void bySeveral(Check c) {
        c.says("by all these: at most five TELLINGS of a CELL");
        int[][] runs = {{1, 1, 1, 1, 1}, {15, 15, 15, 15, 15}, {1, 3, 5, 7, 9}, {16, 1, 2, 3, 16}, {7, 7, 11, 13, 13}, {12, 12, 12, 12, 12}, {5, 0, 5, 5, 5}};
        int[][] felt = {{0, 1, 2, 3, 0}, {1, 1, 1, 1, 1}, {3, 3, 2, 2, 1}, {0, 0, 0, 1, 1}, {2, 3, 2, 3, 2}};
        for (int[] lies : runs) {
            for (int[] kinds : felt) {
                SighChart x = Check.with("row s;");
                BigInteger[] parts = {BigInteger.ONE, BigInteger.ONE, BigInteger.ONE, BigInteger.ONE};
                for (int who = 0; who < 5; who++) {
                    x.come(lies[who]);
                    x.hear(who);
                    x.tell(who, 0, kinds[who], 0);
                    for (int kind = 0; kind < 4; kind++) {
                        parts[kind] = parts[kind].multiply(BigInteger.valueOf(kind == kinds[who] ? 48 - 3 * lies[who] : lies[who]));
                    }
                }
                BigInteger all = parts[0].add(parts[1]).add(parts[2]).add(parts[3]);
                int best = 0;
                for (int kind = 0; kind < 4; kind++) {
                    best = parts[kind].compareTo(parts[best]) > 0 ? kind : best;
                    if (all.signum() == 0) {
                        c.denied(x, "oddsThat(0, " + kind + ")", x.oddsThat(0, kind), 9);
                    } else {
                        reduced(c, x, "oddsThat(0, " + kind + ")", x.oddsThat(0, kind), parts[kind], all);
                    }
                }
                if (all.signum() == 0) {
                    c.refused(x, "likeliest(0)", x.likeliest(0), 9);
                } else {
                    c.answered(x, "likeliest(0)", x.likeliest(0), best);
                }
            }
        }
    }

    /** A sea of one cell with travellers who are heard: by what each lies, and what he felt. */
    private static SighChart of(int[]... liesAndFelt) {
        SighChart x = Check.with("row s;");
        for (int[] one : liesAndFelt) {
            int who = x.come(one[0]);
            x.hear(who);
            x.tell(who, 0, one[1], 0);
        }
        return x;
    }

    private static void noKindCanBe(Check c) {
        c.says("it can't be, if no KIND can be so; 9");
        SighChart[] no = {
            of(new int[] {0, 1}, new int[] {0, 2}),
            of(new int[] {0, 1}, new int[] {16, 1}),
            of(new int[] {16, 0}, new int[] {16, 1}, new int[] {16, 2}, new int[] {16, 3}),
            of(new int[] {3, 2}, new int[] {0, 3}, new int[] {0, 0}),
        };
        for (SighChart x : no) {
            x.swear(1, 1);
            for (int kind = 0; kind < 4; kind++) {
                c.denied(x, "oddsThat(0, " + kind + ")", x.oddsThat(0, kind), 9);
                c.due("top() stays", x.top(), 1);
                c.due("bottom() stays", x.bottom(), 4);
            }
            c.refused(x, "likeliest(0)", x.likeliest(0), 9);
            c.refused(x, "ask()", x.ask(), 8);
            c.denied(x, "5 ahead of 9", x.oddsThat(0, 4), 5);
            c.denied(x, "2 ahead of 9", x.oddsThat(1, 0), 2);
            c.refused(x, "2 ahead of 9", x.likeliest(1), 2);
            for (int who = 0; who < 4; who++) {
                x.forget(who);
            }
            c.fraction(x, "oddsThat(0, 0), all forgotten", x.oddsThat(0, 0), 1, 4);
        }
        c.says("what can be so, if by one KIND alone");
        SighChart one = of(new int[] {16, 0}, new int[] {16, 1}, new int[] {16, 3});
        c.fraction(one, "oddsThat(0, 2)", one.oddsThat(0, 2), 1, 1);
        c.fraction(one, "oddsThat(0, 0)", one.oddsThat(0, 0), 0, 1);
        c.answered(one, "likeliest(0)", one.likeliest(0), 2);
        c.answered(one, "ask()", one.ask(), 0);
        SighChart sure = of(new int[] {0, 3}, new int[] {16, 2}, new int[] {15, 0});
        c.fraction(sure, "oddsThat(0, 3)", sure.oddsThat(0, 3), 1, 1);
        c.answered(sure, "likeliest(0)", sure.likeliest(0), 3);
    }

    private static void refusedOdds(Check c) {
        c.says("oddsThat (2; 5; 9), likeliest (2; 9)");
        SighChart x = Check.with("row ss;");
        for (int no : new int[] {MIN, -1, 2, 36, MAX}) {
            c.denied(x, "oddsThat(" + no + ", 0)", x.oddsThat(no, 0), 2);
            c.denied(x, "oddsThat(" + no + ", 4)", x.oddsThat(no, 4), 2);
            c.refused(x, "likeliest(" + no + ")", x.likeliest(no), 2);
        }
        for (int no : new int[] {MIN, -1, 4, MAX}) {
            c.denied(x, "oddsThat(1, " + no + ")", x.oddsThat(1, no), 5);
        }
        c.fraction(x, "oddsThat(1, 3)", x.oddsThat(1, 3), 1, 4);
        c.answered(x, "likeliest(1)", x.likeliest(1), 0);
    }

    private static void likeliestKinds(Check c) {
        c.says("The likeliest KIND of a CELL, of several the first");
        for (int told = 0; told < 4; told++) {
            for (int lies = 0; lies <= 16; lies++) {
                SighChart x = of(new int[] {lies, told});
                int firstOther = told == 0 ? 1 : 0;
                // By 12 all are as likely; by less the one that was told is the likeliest, by more the others are.
                c.answered(x, "told " + told + " by one who LIES by " + lies, x.likeliest(0), lies < 12 ? told : lies == 12 ? 0 : firstOther);
            }
        }
        SighChart two = of(new int[] {3, 3}, new int[] {3, 1});
        c.answered(two, "two as likely", two.likeliest(0), 1);
        SighChart both = of(new int[] {3, 3}, new int[] {3, 1}, new int[] {5, 3});
        c.answered(both, "two tell of one, one of another", both.likeliest(0), 3);
    }

    private static void whichToAsk(Check c) {
        c.says("ASK: the CELL (of those of which this can be) whose likeliest KIND is the least likely; of several the first");
        SighChart none = new SighChart();
        c.refused(none, "ask() without a SEA", none.ask(), 8);
        SighChart x = Check.with("row ssss;traveller a lies 12 heard;traveller b lies 2 heard;traveller z heard;");
        x.tell(1, 0, 0, 0);
        c.answered(x, "one is told", x.ask(), 1);
        x.tell(0, 1, 2, 0);
        c.answered(x, "told by one who LIES by 12: still a quarter, and the first", x.ask(), 1);
        x.tell(1, 1, 2, 0);
        c.answered(x, "the next", x.ask(), 2);
        x.tell(2, 2, 3, 0);
        c.answered(x, "the last", x.ask(), 3);
        x.tell(2, 2, 1, 0);
        x.tell(2, 3, 1, 0);
        c.answered(x, "7 by 8, one that can't be, 1: of several the first", x.ask(), 0);
        x.tell(2, 0, 1, 0);
        c.answered(x, "1, 7 by 8", x.ask(), 1);
        x.tell(2, 0, 0, 0);
        x.tell(2, 1, 0, 0);
        c.answered(x, "can't be, 1, can't be, 1", x.ask(), 1);
        x.tell(2, 1, 1, 0);
        c.answered(x, "the last alone can be", x.ask(), 3);
        x.tell(2, 3, 0, 0);
        c.answered(x, "many(3)", x.many(3), 11);
        c.refused(x, "8: there is no CELL of which it can be", x.ask(), 8);
        x.forget(2);
        c.answered(x, "ask() of those who are HEARD", x.ask(), 2);
        c.says("the least likely of all CELLS, the last one, too");
        SighChart full = Check.with("row ssssss;".repeat(2) + "traveller a heard;");
        for (int cell = 0; cell < 11; cell++) {
            full.tell(0, cell, 0, 0);
            c.answered(full, "ask()", full.ask(), cell + 1);
        }
        full.tell(0, 11, 0, 0);
        c.answered(full, "ask(), all are sure", full.ask(), 0);
    }

    private static void fewestLiars(Check c) {
        c.says("the fewest TRAVELLERS such that no two TELLINGS by others (or one of them) of one CELL felt unlike KINDS");
        SighChart none = new SighChart();
        c.answered(none, "liars() without TRAVELLERS", none.liars(), 0);
        c.answered(none, "liarSet() without TRAVELLERS", none.liarSet(), 0);
        // who tells what of which cell; the set
        int[][][] runs = {
            {{}, {0}},
            {{0, 0, 0, 1, 0, 0}, {0}},
            {{0, 0, 0, 1, 1, 1}, {0}},
            {{0, 0, 0, 1, 0, 1}, {1}},
            {{3, 0, 0, 4, 0, 1}, {8}},
            {{4, 0, 0, 4, 0, 1}, {16}},
            {{0, 0, 0, 1, 0, 1, 1, 1, 0, 2, 1, 3}, {2}},
            {{0, 0, 0, 1, 0, 1, 2, 0, 2}, {3}},
            {{0, 0, 0, 1, 0, 1, 2, 0, 2, 3, 0, 3}, {7}},
            {{0, 0, 0, 1, 0, 1, 2, 0, 2, 3, 0, 3, 4, 0, 3}, {7}},
            {{0, 0, 0, 0, 0, 1, 1, 0, 0}, {1}},
            {{0, 0, 0, 0, 0, 1, 1, 1, 0, 1, 1, 1, 2, 2, 0, 2, 2, 1, 3, 3, 0, 3, 3, 1, 4, 4, 0, 4, 4, 1}, {31}},
            {{0, 0, 0, 1, 0, 1, 2, 1, 0, 3, 1, 1}, {5}},
            {{0, 0, 0, 4, 0, 1, 4, 1, 0, 3, 1, 1}, {16}},
            {{2, 0, 0, 1, 0, 1, 2, 1, 0, 1, 1, 1}, {2}},
        };
        for (int[][] run : runs) {
            SighChart x = Check.with("row ssssss;");
            for (int who = 0; who < 5; who++) {
                x.come(0);
            }
            for (int i = 0; i + 2 < run[0].length; i += 3) {
                x.tell(run[0][i], run[0][i + 1], run[0][i + 2], 0);
            }
            c.answered(x, "liarSet() of " + Arrays.toString(run[0]), x.liarSet(), run[1][0]);
            c.answered(x, "liars() of " + Arrays.toString(run[0]), x.liars(), Integer.bitCount(run[1][0]));
        }
    }

    private static void heardOrNot(Check c) {
        c.says("LIARS, CLASHES: HEARD or not");
        for (int heard = 0; heard < 4; heard++) {
            SighChart x = Check.with("row s;traveller a" + (heard % 2 == 1 ? " heard" : "") + ";traveller b" + (heard > 1 ? " heard" : "")
                    + ";told a 0 0 calm;told b 0 0 fear;told b 0 0 fear;");
            c.answered(x, "liars()", x.liars(), 1);
            c.answered(x, "liarSet()", x.liarSet(), 1);
            c.answered(x, "clashes()", x.clashes(), 2);
        }
        c.says("whatever they LIE by, and whatever is in the SEA");
        SighChart x = Check.with("row r;traveller a lies 16;traveller b;told a 0 0 calm;told b 0 0 fear;");
        c.answered(x, "liarSet()", x.liarSet(), 1);
        SighChart y = Check.with("row s;traveller a;traveller b lies 16;told a 0 0 calm;told b 0 0 fear;");
        c.answered(y, "liarSet()", y.liarSet(), 1);
    }

    private static void clashingPairs(Check c) {
        c.says("CLASHES: how many pairs of TELLINGS, HEARD or not, of one CELL felt unlike KINDS");
        SighChart x = Check.with("row sss;traveller a;traveller b heard;");
        c.answered(x, "without TELLINGS", x.clashes(), 0);
        long[] due = {0, 1, 3, 6, 9};
        int[] kinds = {0, 1, 2, 3, 0};
        for (int i = 0; i < 5; i++) {
            x.tell(i % 2, 0, kinds[i], 0);
            c.answered(x, (i + 1) + " of one CELL", x.clashes(), due[i]);
        }
        x.tell(0, 1, 2, 0);
        c.answered(x, "one of another CELL", x.clashes(), 9);
        x.tell(0, 1, 2, 9);
        c.answered(x, "two alike", x.clashes(), 9);
        x.tell(0, 1, 3, 0);
        c.answered(x, "one unlike two", x.clashes(), 11);
        x.tell(1, 2, 3, 0);
        c.answered(x, "another CELL", x.clashes(), 11);
        SighChart none = new SighChart();
        c.answered(none, "without a SEA", none.clashes(), 0);
    }

    private static BigInteger choose(int n, int k) {
        BigInteger ways = BigInteger.ONE;
        for (int i = 0; i < k; i++) {
            ways = ways.multiply(BigInteger.valueOf(n - i)).divide(BigInteger.valueOf(i + 1));
        }
        return ways;
    }

    private static void swearing(Check c) {
        c.says("Each of n captains (0 to 12) swears by the chart by ODDS sixteenths: SWEAR: the odds that k or more do");
        for (int odds = 0; odds <= 16; odds++) {
            for (int n = 0; n <= 12; n++) {
                SighChart x = new SighChart();
                x.rule(odds);
                for (int k = 0; k <= 12; k++) {
                    BigInteger ways = BigInteger.ZERO;
                    for (int swear = k; swear <= n; swear++) {
                        ways = ways.add(choose(n, swear).multiply(BigInteger.valueOf(odds).pow(swear))
                                .multiply(BigInteger.valueOf(16 - odds).pow(n - swear)));
                    }
                    reduced(c, x, "swear(" + n + ", " + k + ")", x.swear(n, k), ways, BigInteger.valueOf(16).pow(n));
                }
            }
        }
        c.says("n, k 0 to 12 (5)");
        SighChart x = new SighChart();
        c.fraction(x, "swear(0, 0)", x.swear(0, 0), 1, 1);
        c.fraction(x, "swear(0, 12)", x.swear(0, 12), 0, 1);
        c.fraction(x, "swear(12, 12), ODDS 4", x.swear(12, 12), 1, 16777216);
        for (int no : new int[] {MIN, -1, 13, MAX}) {
            c.denied(x, "swear(" + no + ", 0)", x.swear(no, 0), 5);
            c.denied(x, "swear(12, " + no + ")", x.swear(12, no), 5);
            c.denied(x, "swear(" + no + ", " + no + ")", x.swear(no, no), 5);
        }
        c.due("top() stays", x.top(), 1);
        c.due("bottom() stays", x.bottom(), 16777216);
    }

    private static void sharing(Check c) {
        c.says("the part of all TELLINGS that a TRAVELLER has (2; 8: there are none)");
        SighChart x = Check.with("row sss;traveller a heard;traveller b;traveller d;");
        for (int no : new int[] {MIN, -1, 3, 5, MAX}) {
            c.denied(x, "share(" + no + "): 2 ahead of 8", x.share(no), 2);
        }
        for (int who = 0; who < 3; who++) {
            c.denied(x, "share(" + who + ")", x.share(who), 8);
        }
        int[] has = new int[3];
        for (int i = 0; i < 12; i++) {
            int who = i % 4 == 3 ? 0 : i % 2;
            x.tell(who, i % 3, 0, 0);
            has[who]++;
            for (int of = 0; of < 3; of++) {
                reduced(c, x, "share(" + of + ") of " + (i + 1), x.share(of), BigInteger.valueOf(has[of]), BigInteger.valueOf(i + 1));
            }
        }
        for (int no : new int[] {MIN, -1, 3, 5, MAX}) {
            c.denied(x, "share(" + no + ")", x.share(no), 2);
        }
        SighChart none = new SighChart();
        c.denied(none, "share(0) without TRAVELLERS", none.share(0), 2);
    }

    private static void fractions(Check c) {
        c.says("FRACTIONS are told without a common divisor, the bottom above 0; 0 is 0 by 1");
        SighChart x = Check.with("row ss;traveller a lies 8 heard;traveller b;told a 0 0 calm;told a 0 0 calm;told a 0 1 calm;");
        c.fraction(x, "share(0)", x.share(0), 1, 1);
        c.fraction(x, "share(1)", x.share(1), 0, 1);
        c.fraction(x, "oddsThat(0, 0), 24 times 24 of 768", x.oddsThat(0, 0), 3, 4);
        c.fraction(x, "swear(0, 1)", x.swear(0, 1), 0, 1);
        c.fraction(x, "comesIn(0), none to come into", x.comesIn(0), 1, 1);
        Check.years(x, "hear a;");
        c.fraction(x, "mean(0, 20), 2 of 2", x.mean(0, 20), 2, 1);
        c.says("The FRACTION told latest stays by calls that tell none");
        x.share(1);
        c.due("top()", x.top(), 0);
        c.due("bottom()", x.bottom(), 1);
        x.swear(1, 1);
        x.live(3);
        x.tell(0, 0, 0, 0);
        x.share(7);
        x.mean(0, 0);
        Check.duchy(x, "row s;");
        x.share(0);
        c.due("top()", x.top(), 1);
        c.due("bottom()", x.bottom(), 4);
    }
}
