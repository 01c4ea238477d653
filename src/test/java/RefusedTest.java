import java.util.ArrayList;
import java.util.List;

/**
 * "A call with another STATUS than 0 gives NONE, or false, and changes nothing but STATUS": of two objects with the same
 * calls behind them one is refused a call more, and then both are asked for all there is.
 */
final class RefusedTest {
    private static final int MIN = Integer.MIN_VALUE;
    private static final int MAX = Integer.MAX_VALUE;

    interface Asked {
        boolean on(SighChart x);
    }

    interface Made {
        SighChart make();
    }

    private final Check check = new Check("RefusedTest");
    private String state = "";
    private Made made = SighChart::new;

    public static void main(String[] args) {
        RefusedTest test = new RefusedTest();
        test.on("a new object", SighChart::new);
        test.ofANewObject();
        test.on("a chart with all there is", RefusedTest::rich);
        test.ofTrays();
        test.ofTexts();
        test.ofWhatIsThere();
        test.ofWhatIsDone();
        test.ofOddsAndWays();
        test.ofPlansAndGames();
        test.ofYearsAndMarks();
        test.on("a full chart", RefusedTest::full);
        test.ofAFullChart();
        test.on("a walled chart on which no kind can be", RefusedTest::walled);
        test.ofAWalledChart();
        test.faulty();
        test.check.end();
    }

    private void on(String name, Made how) {
        state = name;
        made = how;
    }

    /** A sea of six cells, trays of unlike sorts, a fraction, a fault, years, a life, a mark, a tape. */
    private static SighChart rich() {
        SighChart x = new SighChart();
        x.tray(0, 0, 4);
        x.tray(1, 3, 3);
        x.tray(2, 0, 5);
        for (int place = 0; place < 5; place++) {
            x.write(0, place, 10 + place);
            x.write(1, place, -7L << 33);
            x.write(2, place, 20 + place);
        }
        Check.duchy(x, "row srb;row iss;odds 5;harbour 0 2;traveller ann lies 2 heard;traveller bob lies 7;traveller cyd;"
                + "told ann 0 0 calm missed 1;told bob 0 0 fear;told ann 1 0 sigh missed 6;told cyd 1 0 sigh missed 3;");
        Check.years(x, "any;hear cyd;told cyd 1 2 tears;sail 1 1;");
        x.mark();
        x.live(12);
        x.change(5, 2);
        x.moor(1);
        x.swear(5, 3);
        Check.years(x, "any;stop?");
        Check.feed(x, "hear bob;any;told ann 0 1 fear;forget ann;sail 1 1;");
        return x;
    }

    /** Five travellers, twelve tellings, five of one cell, three marks, 900 bytes. */
    private static SighChart full() {
        SighChart x = Check.with("row srb;row iss;traveller a;traveller b heard;traveller d lies 3 heard;traveller e;traveller f lies 9;"
                + "told a 0 0 calm;".repeat(5) + "told b 0 1 fear;".repeat(4) + "told d 1 1 tears;told e 1 2 sigh missed 4;told f 0 2 sigh;");
        Check.years(x, "hear a;any;stop;");
        x.mark();
        x.rule(7);
        x.mark();
        x.rule(8);
        x.mark();
        x.rule(9);
        x.share(1);
        while (x.feed(0x616E793B, 0x20202020, 0x20202020, 0x20202020, 0x20202020) != SighChart.NONE) {
            x.status();
        }
        return x;
    }

    /** The harbour is walled in by rocks; of the cells that were told none can be of any kind. */
    private static SighChart walled() {
        SighChart x = Check.with("row sss;row sss;traveller a heard;traveller b heard;traveller d;"
                + "told a 0 1 fear;told b 0 1 fear;told a 1 0 fear;told b 1 0 fear;told a 0 0 calm;told b 0 0 tears;"
                + "told a 0 1 calm;told a 1 0 calm;told a 1 1 calm;told b 1 1 tears;");
        Check.years(x, "sail 1 1;any;");
        x.mark();
        x.hear(2);
        x.swear(3, 1);
        return x;
    }

    private static void ask(List<Long> all, long answer) {
        all.add(answer);
    }

    private static void chart(List<Long> all, SighChart x) {
        for (int what = 0; what < 9; what++) {
            ask(all, x.many(what));
        }
        for (int cell = 0; cell < 6; cell++) {
            for (int what = 0; what < 5; what++) {
                ask(all, x.cell(cell, what));
            }
        }
        for (int who = 0; who < 5; who++) {
            for (int what = 0; what < 4; what++) {
                ask(all, x.traveller(who, what));
            }
        }
        for (int telling = 0; telling < 12; telling++) {
            for (int what = 0; what < 4; what++) {
                ask(all, x.telling(telling, what));
            }
        }
        for (int what = 0; what < 5; what++) {
            ask(all, x.lived(what));
        }
    }

    /** All that can be told of an object, and what becomes of it; without the tape where that may be another one. */
    private static List<Long> everything(SighChart x, boolean withTape) {
        List<Long> all = new ArrayList<>();
        ask(all, x.top());
        ask(all, x.bottom());
        for (int tray = 0; tray < 4; tray++) {
            for (int place = 0; place < 6; place++) {
                ask(all, x.read(tray, place));
                ask(all, x.status());
            }
        }
        chart(all, x);
        if (withTape) {
            ask(all, x.fault(0));
            ask(all, x.fault(1));
            ask(all, x.feed(0x616E793B, 0, 0, 0, 0));
            ask(all, x.years(50));
            ask(all, x.status());
        }
        ask(all, x.live(77));
        chart(all, x);
        for (int left = 3; left >= 0; left--) {
            ask(all, x.back());
            ask(all, x.status());
            for (int what = 0; what < 9; what++) {
                ask(all, x.many(what));
            }
            ask(all, x.live(5));
            ask(all, x.many(3));
        }
        return all;
    }

    private void no(int status, String name, Check.Call call) {
        refused(status, name, call, SighChart.NONE);
    }

    private void not(int status, String name, Asked call) {
        refused(status, name, x -> call.on(x) ? 1 : 0, 0);
    }

    private void refused(int status, String name, Check.Call call, long due) {
        SighChart x = made.make();
        check.says(state);
        check.due(name, call.on(x), due);
        check.due("status() behind " + name, x.status(), status);
        check.due(name + ": all else is as it was", everything(x, true).equals(everything(made.make(), true)), true);
    }

    private void ofANewObject() {
        not(3, "write", x -> x.write(0, 0, 7));
        no(3, "read", x -> x.read(3, 0));
        not(3, "pour", x -> x.pour(0, 0, 1, 0, 0));
        no(3, "copyChart", x -> x.copyChart(0));
        no(5, "duchy(1)", x -> x.duchy(1));
        no(5, "years(1)", x -> x.years(1));
        no(8, "many(5)", x -> x.many(5));
        no(2, "hear", x -> x.hear(0));
        no(2, "moor", x -> x.moor(0));
        no(2, "trust", x -> x.trust(0, 5));
        no(2, "change", x -> x.change(0, 1));
        no(8, "ask", x -> x.ask());
        no(8, "moveOf", x -> x.moveOf(4));
        not(2, "share", x -> x.share(0));
        no(8, "live", x -> x.live(0));
        no(8, "lived", x -> x.lived(4));
        not(8, "mean", x -> x.mean(0, 20));
        no(8, "back", x -> x.back());
    }

    private void ofTrays() {
        for (int tray : new int[] {MIN, -1, 4, MAX}) {
            not(1, "tray, no such TRAY", x -> x.tray(tray, 0, 2));
            not(1, "tray, no such sort", x -> x.tray(0, tray, 2));
            not(1, "write, no such TRAY", x -> x.write(tray, 0, 2));
            no(1, "read, no such TRAY", x -> x.read(tray, 0));
            not(1, "pour, no such TRAY", x -> x.pour(tray, 0, 0, 0, 2));
            not(1, "pour to no such TRAY", x -> x.pour(0, 0, tray, 0, 2));
            no(1, "copyChart, no such TRAY", x -> x.copyChart(tray));
        }
        not(5, "tray of 61", x -> x.tray(0, 0, 61));
        not(5, "tray of 61, MISSING", x -> x.tray(3, 0, 61));
        not(6, "tray of -1", x -> x.tray(0, 0, -1));
        not(6, "tray of -1, MISSING", x -> x.tray(3, 0, -1));
        not(3, "write, MISSING", x -> x.write(3, 0, 1));
        no(3, "read, MISSING", x -> x.read(3, 0));
        not(3, "pour from MISSING", x -> x.pour(3, 0, 0, 0, 0));
        not(3, "pour to MISSING", x -> x.pour(0, 0, 3, 0, 1));
        no(3, "copyChart, MISSING", x -> x.copyChart(3));
        for (int place : new int[] {MIN, -1, 4, 5, 60, MAX}) {
            not(4, "write, no such place", x -> x.write(0, place, 1));
            no(4, "read, no such place", x -> x.read(0, place));
            not(4, "pour, no such place", x -> x.pour(0, place, 2, 0, 1));
            not(4, "pour to no such place", x -> x.pour(2, 0, 0, place, 1));
        }
        not(11, "pour, unlike sorts", x -> x.pour(0, 0, 1, 0, 1));
        not(11, "pour, unlike sorts the other way", x -> x.pour(1, 0, 0, 0, 1));
        not(6, "pour of -1", x -> x.pour(0, 0, 2, 0, -1));
        not(4, "pour of five of four", x -> x.pour(0, 0, 2, 0, 5));
        not(4, "pour of five to four", x -> x.pour(2, 0, 0, 0, 5));
        not(4, "pour to itself, one too far", x -> x.pour(0, 0, 0, 1, 4));
        no(4, "copyChart, too few", x -> x.copyChart(0));
        no(4, "copyChart, too few by one", x -> x.copyChart(2));
    }

    private void ofTexts() {
        for (int n : new int[] {MIN, -1, 61, 901, MAX}) {
            no(5, "duchy(" + n + ")", x -> x.duchy(n));
            no(5, "years(" + n + ")", x -> x.years(n));
        }
    }

    private void ofWhatIsThere() {
        for (int what : new int[] {MIN, -1, 9, MAX}) {
            no(5, "many(" + what + ")", x -> x.many(what));
        }
        for (int number : new int[] {MIN, -1, 12, 36, MAX}) {
            no(2, "cell, no such CELL", x -> x.cell(number, 0));
            no(5, "cell, no such number", x -> x.cell(0, number));
            no(2, "votes, no such CELL", x -> x.votes(number, 0));
            no(5, "votes, no such KIND", x -> x.votes(0, number));
            no(2, "traveller, no such TRAVELLER", x -> x.traveller(number, 0));
            no(5, "traveller, no such number", x -> x.traveller(0, number));
            no(2, "telling, no such TELLING", x -> x.telling(number, 0));
            no(5, "telling, no such number", x -> x.telling(0, number));
            no(2, "both of cell", x -> x.cell(number, number));
            no(2, "both of votes", x -> x.votes(number, number));
            no(2, "both of traveller", x -> x.traveller(number, number));
            no(2, "both of telling", x -> x.telling(number, number));
        }
    }

    private void ofWhatIsDone() {
        for (int number : new int[] {MIN, -1, 6, 36, MAX}) {
            no(2, "hear, no such TRAVELLER", x -> x.hear(number));
            no(2, "forget, no such TRAVELLER", x -> x.forget(number));
            no(2, "tell, no such TRAVELLER", x -> x.tell(number, 0, 0, 0));
            no(2, "tell, no such CELL", x -> x.tell(0, number, 0, 0));
            no(5, "tell, no such KIND", x -> x.tell(0, 5, number, 0));
            no(2, "tell, all of these", x -> x.tell(number, number, number, number));
            no(2, "change, no such CELL", x -> x.change(number, 0));
            no(5, "change, no such KIND", x -> x.change(5, number));
            no(2, "change, both of these", x -> x.change(number, number));
            no(2, "trust, no such TRAVELLER", x -> x.trust(number, 5));
            no(2, "moor, no such CELL", x -> x.moor(number));
        }
        for (int number : new int[] {MIN, -1, 17, MAX}) {
            no(5, "tell, MISSED by no such number", x -> x.tell(0, 5, 0, number));
            no(5, "trust by no such number", x -> x.trust(0, number));
            no(2, "trust, both of these", x -> x.trust(number, number));
            no(5, "come who LIES by no such number", x -> x.come(number));
            not(5, "rule, no such number", x -> x.rule(number));
        }
        no(5, "tell, MISSED by 10", x -> x.tell(0, 5, 0, 10));
        no(9, "hear who is HEARD", x -> x.hear(0));
        no(9, "forget who is not", x -> x.forget(1));
    }

    private void ofOddsAndWays() {
        for (int number : new int[] {MIN, -1, 6, 36, MAX}) {
            not(2, "oddsThat, no such CELL", x -> x.oddsThat(number, 0));
            not(5, "oddsThat, no such KIND", x -> x.oddsThat(0, number));
            not(2, "oddsThat, both of these", x -> x.oddsThat(number, number));
            no(2, "likeliest, no such CELL", x -> x.likeliest(number));
            no(2, "way, no such CELL", x -> x.way(number));
            no(2, "wayLong, no such CELL", x -> x.wayLong(number));
            no(2, "wayAt, no such CELL", x -> x.wayAt(number, 0));
            no(2, "wayAt, both of these", x -> x.wayAt(number, number));
            no(8, "wayAt, no such number", x -> x.wayAt(5, number));
            not(2, "comesIn, no such CELL", x -> x.comesIn(number));
            no(2, "sail, no such CELL", x -> x.sail(number));
            not(2, "share, no such TRAVELLER", x -> x.share(number));
        }
    }

    private void ofPlansAndGames() {
        for (int number : new int[] {MIN, -1, 61, MAX}) {
            no(5, "plan, no such number", x -> x.plan(number));
            no(5, "planSet, no such number", x -> x.planSet(number));
            no(5, "game, no such number", x -> x.game(number));
            no(5, "moveOf, no such number", x -> x.moveOf(number));
            not(5, "swear, no such n", x -> x.swear(number, 1));
            not(5, "swear, no such k", x -> x.swear(1, number));
        }
        no(5, "game(5)", x -> x.game(5));
        no(5, "moveOf(0)", x -> x.moveOf(0));
        no(5, "moveOf(5)", x -> x.moveOf(5));
        not(5, "swear(13, 0)", x -> x.swear(13, 0));
        not(5, "swear(0, 13)", x -> x.swear(0, 13));
    }

    private void ofYearsAndMarks() {
        for (int number : new int[] {MIN, -1, 10000, MAX}) {
            no(5, "live, no such seed", x -> x.live(number));
            no(5, "lived, no such number", x -> x.lived(number));
            not(5, "mean from no such seed", x -> x.mean(number, 1));
            not(5, "mean of no such number", x -> x.mean(0, number));
        }
        no(5, "lived(5)", x -> x.lived(5));
        not(5, "mean(0, 0)", x -> x.mean(0, 0));
        not(5, "mean(0, 21)", x -> x.mean(0, 21));
        not(5, "mean(9981, 20)", x -> x.mean(9981, 20));
    }

    private void ofAFullChart() {
        no(7, "tell, a 13th", x -> x.tell(0, 5, 0, 0));
        no(7, "tell, a sixth", x -> x.tell(1, 0, 0, 0));
        no(5, "tell, a 13th of no such KIND", x -> x.tell(0, 5, 4, 0));
        no(2, "tell, a 13th of no such CELL", x -> x.tell(0, 6, 0, 0));
        no(7, "come, a sixth", x -> x.come(0));
        no(5, "come, a sixth who LIES by 17", x -> x.come(17));
        no(7, "mark, a fourth", x -> x.mark());
        no(5, "duchy(901)", x -> x.duchy(901));
        no(5, "years(301)", x -> x.years(301));
        no(5, "years(900)", x -> x.years(900));
        no(0, "feed to more than 900", x -> x.feed(0x726F7720, 0x733B2020, 0, 0, 0));
    }

    private void ofAWalledChart() {
        not(9, "oddsThat", x -> x.oddsThat(0, 0));
        not(5, "oddsThat, 5 ahead of 9", x -> x.oddsThat(0, 4));
        no(9, "likeliest", x -> x.likeliest(0));
        for (int cell = 1; cell < 6; cell++) {
            int to = cell;
            no(8, "way", x -> x.way(to));
            no(8, "wayLong", x -> x.wayLong(to));
            no(8, "wayAt", x -> x.wayAt(to, 0));
            not(8, "comesIn", x -> x.comesIn(to));
            no(8, "sail", x -> x.sail(to));
        }
        no(9, "hear who is HEARD", x -> x.hear(2));
        no(8, "moveOf, all are HEARD", x -> x.moveOf(4));
        no(8, "lived, none was", x -> x.lived(0));
    }

    private void faulty() {
        String[] texts = {"?", "row", "row q;", "odds 3;odds 3;", "row s;row s;row s;row s;row s;row s;row s;", "traveller z;traveller z;",
            "row ss;odds 9;harbour 0 1;traveller zoe heard;told zoe 0 0 calm;told zoe 0 2 calm;", "stop;stop;end;", "loop 3;any;", "loop 0;end;",
            "hear zoe;", "any;".repeat(31), "loop 1;loop 1;loop 1;loop 1;end;end;end;end;"};
        Made[] states = {SighChart::new, RefusedTest::rich, RefusedTest::full, RefusedTest::walled};
        check.says("10: changes nothing but STATUS, the tape, and what fault() tells");
        for (String text : texts) {
            for (Made one : states) {
                for (int asYears = 0; asYears < 2; asYears++) {
                    SighChart x = withAnEmptyTape(one);
                    SighChart y = withAnEmptyTape(one);
                    check.due(text, asYears == 1 ? Check.years(x, text) : Check.duchy(x, text), SighChart.NONE);
                    check.due("status() behind " + text, x.status(), 10);
                    check.due("feed behind " + text, x.feed(0, 0, 0, 0, 0), 20);
                    check.due(text + ": all else is as it was", everything(x, false).equals(everything(y, false)), true);
                }
            }
        }
    }

    private static SighChart withAnEmptyTape(Made how) {
        SighChart x = how.make();
        Check.feed(x, "any;hear a;stop;");
        x.years(4);
        return x;
    }
}
