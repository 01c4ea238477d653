/** Promises 1 to 8. */
final class TraysTest {
    public static void main(String[] args) {
        Check check = new Check("TraysTest");
        newObject(check);
        laying(check);
        writing(check);
        pouring(check);
        check.end();
    }

    private static void newObject(Check c) {
        SighChart x = new SighChart();
        c.due("status()", x.status(), 0);
        c.due("top()", x.top(), 0);
        c.due("bottom()", x.bottom(), 1);
        c.due("fault(0)", x.fault(0), -1);
        c.due("fault(1)", x.fault(1), -1);
        for (int tray = 0; tray < 4; tray++) {
            c.refused(x, "read(" + tray + ", 0)", x.read(tray, 0), 3);
        }
        c.answered(x, "many(4)", x.many(4), 4);
        c.answered(x, "many(0)", x.many(0), 0);
        c.refused(x, "live(0)", x.live(0), 8);
        c.refused(x, "back()", x.back(), 8);
        c.due("feed", x.feed(0, 0, 0, 0, 0), 20);
    }

    private static void laying(Check c) {
        SighChart x = new SighChart();
        c.denied(x, "tray(-1, 0, 1)", x.tray(-1, 0, 1), 1);
        c.denied(x, "tray(4, 0, 1)", x.tray(4, 0, 1), 1);
        c.denied(x, "tray(0, -1, 1)", x.tray(0, -1, 1), 1);
        c.denied(x, "tray(0, 4, 1)", x.tray(0, 4, 1), 1);
        c.denied(x, "tray(0, 4, 99)", x.tray(0, 4, 99), 1);
        c.denied(x, "tray(0, 0, 61)", x.tray(0, 0, 61), 5);
        c.denied(x, "tray(0, 0, -1)", x.tray(0, 0, -1), 6);
        c.denied(x, "tray(0, 0, MIN)", x.tray(0, 0, Integer.MIN_VALUE), 6);
        c.refused(x, "read(0, 0)", x.read(0, 0), 3);
        c.done(x, "tray(0, 3, 60)", x.tray(0, 3, 60));
        c.answered(x, "read(0, 59)", x.read(0, 59), 0);
        c.refused(x, "read(0, 60)", x.read(0, 60), 4);
        c.done(x, "write(0, 3, 7)", x.write(0, 3, 7));
        c.done(x, "tray(0, 3, 4)", x.tray(0, 3, 4));
        c.answered(x, "read(0, 3)", x.read(0, 3), 0);
        c.refused(x, "read(0, 4)", x.read(0, 4), 4);
        c.done(x, "tray(1, 0, 0)", x.tray(1, 0, 0));
        c.refused(x, "read(1, 0)", x.read(1, 0), 4);
    }

    private static void writing(Check c) {
        long[] cut = {(byte) 0x1234567890ABCDEFL, (short) 0x1234567890ABCDEFL, (int) 0x1234567890ABCDEFL, 0x1234567890ABCDEFL};
        SighChart x = new SighChart();
        for (int sort = 0; sort < 4; sort++) {
            x.tray(sort, sort, 3);
            c.done(x, "write", x.write(sort, 1, 0x1234567890ABCDEFL));
            c.answered(x, "read", x.read(sort, 1), cut[sort]);
            c.answered(x, "read", x.read(sort, 0), 0);
            c.done(x, "write -1", x.write(sort, 2, -1));
            c.answered(x, "read -1", x.read(sort, 2), -1);
            c.done(x, "write 128", x.write(sort, 0, 128));
            c.answered(x, "read 128", x.read(sort, 0), sort == 0 ? -128 : 128);
        }
        c.denied(x, "write(4, 0, 0)", x.write(4, 0, 0), 1);
        c.denied(x, "write(-1, 0, 0)", x.write(-1, 0, 0), 1);
        c.denied(x, "write(0, 3, 0)", x.write(0, 3, 0), 4);
        c.denied(x, "write(0, -1, 0)", x.write(0, -1, 0), 4);
        c.refused(x, "read(4, 0)", x.read(4, 0), 1);
        c.refused(x, "read(0, MAX)", x.read(0, Integer.MAX_VALUE), 4);
        c.refused(x, "read(0, MIN)", x.read(0, Integer.MIN_VALUE), 4);
        SighChart y = new SighChart();
        c.denied(y, "write(0, 0, 0)", y.write(0, 0, 0), 3);
        c.denied(y, "write(0, -1, 0)", y.write(0, -1, 0), 3);
    }

    private static void pouring(Check c) {
        SighChart x = new SighChart();
        x.tray(0, 2, 6);
        x.tray(1, 2, 4);
        x.tray(2, 1, 6);
        for (int i = 0; i < 6; i++) {
            x.write(0, i, i + 1);
        }
        c.done(x, "pour(0, 0, 0, 2, 4)", x.pour(0, 0, 0, 2, 4));
        long[] shifted = {1, 2, 1, 2, 3, 4};
        for (int i = 0; i < 6; i++) {
            c.due("read(0, " + i + ")", x.read(0, i), shifted[i]);
        }
        c.done(x, "pour(0, 2, 0, 1, 4)", x.pour(0, 2, 0, 1, 4));
        long[] back = {1, 1, 2, 3, 4, 4};
        for (int i = 0; i < 6; i++) {
            c.due("read(0, " + i + ")", x.read(0, i), back[i]);
        }
        c.done(x, "pour(0, 2, 1, 1, 3)", x.pour(0, 2, 1, 1, 3));
        c.due("read(1, 0)", x.read(1, 0), 0);
        c.due("read(1, 1)", x.read(1, 1), 2);
        c.due("read(1, 3)", x.read(1, 3), 4);
        c.denied(x, "pour(-1, ..)", x.pour(-1, 0, 3, 0, 1), 1);
        c.denied(x, "pour(0, 0, 4, ..)", x.pour(0, 0, 4, 0, 1), 1);
        c.denied(x, "pour(0, 0, 3, ..)", x.pour(0, 0, 3, 0, -1), 3);
        c.denied(x, "pour(3, 0, 2, ..)", x.pour(3, 0, 2, 0, -1), 3);
        c.denied(x, "pour(0, 9, 2, 0, -1)", x.pour(0, 9, 2, 0, -1), 11);
        c.denied(x, "pour(0, 9, 1, 0, -1)", x.pour(0, 9, 1, 0, -1), 6);
        c.denied(x, "pour(0, 3, 1, 0, 4)", x.pour(0, 3, 1, 0, 4), 4);
        c.denied(x, "pour(0, 0, 1, 1, 4)", x.pour(0, 0, 1, 1, 4), 4);
        c.denied(x, "pour(0, -1, 1, 0, 1)", x.pour(0, -1, 1, 0, 1), 4);
        c.denied(x, "pour(0, 0, 1, -1, 1)", x.pour(0, 0, 1, -1, 1), 4);
        c.denied(x, "pour(0, 2, 1, 0, MAX)", x.pour(0, 2, 1, 0, Integer.MAX_VALUE), 4);
        c.denied(x, "pour(0, 7, 1, 0, 0)", x.pour(0, 7, 1, 0, 0), 4);
        c.done(x, "pour(0, 6, 1, 4, 0)", x.pour(0, 6, 1, 4, 0));
        c.due("read(1, 1)", x.read(1, 1), 2);
    }
}
