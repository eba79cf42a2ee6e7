/** Promises 1 to 8: a new object, STATUS, the FRACTION, TRAYS. */
public final class TraysTest {
    private static void newObject() {
        PaperBread x = new PaperBread();
        Check.due("NONE", PaperBread.NONE, -1);
        Check.due("status()", x.status(), 0);
        Check.due("top()", x.top(), 0);
        Check.due("bottom()", x.bottom(), 1);
        Check.due("fault(0)", x.fault(0), -1);
        Check.due("fault(1)", x.fault(1), -1);
        for (int tray = 0; tray < 4; tray++) {
            Check.none(x, "read of a TRAY that is MISSING", x.read(tray, 0), 3);
        }
        for (int what = 0; what < 7; what++) {
            Check.fine(x, "many(" + what + ")", x.many(what), 0);
        }
        Check.none(x, "live(0)", x.live(0), 8);
        Check.none(x, "back()", x.back(), 8);
        Check.due("the tape is empty", x.feed(0, 0, 0, 0, 0), 20);
    }

    /** STATUS stays through the calls that have none. */
    private static void status() {
        PaperBread x = new PaperBread();
        x.many(9);
        x.status();
        x.fault(0);
        x.feed(0, 0, 0, 0, 0);
        x.top();
        x.bottom();
        Check.due("status()", x.status(), 5);
        x.many(0);
        Check.due("status()", x.status(), 0);
    }

    /** The FRACTION stays through calls that tell none, or refuse. */
    private static void fraction() {
        PaperBread x = Check.of("person a;person b;oven o rain 4;"
                + "loaf l by a in o on 1 slices 6 flour 1;promise 2 of l from a to b;");
        Check.fraction(x, "mean(0, 0, 0)", x.mean(0, 0, 0), 15, 4);
        Check.no(x, "mean(0, 0, 2)", x.mean(0, 0, 2), 5);
        x.holds(0, 0);
        Check.due("top()", x.top(), 15);
        Check.due("bottom()", x.bottom(), 4);
        x.letGo(0);
        Check.fraction(x, "mean(1, 0, 0)", x.mean(1, 0, 0), 0, 1);
    }

    private static void tray() {
        PaperBread x = new PaperBread();
        Check.no(x, "tray(-1, 0, 1)", x.tray(-1, 0, 1), 1);
        Check.no(x, "tray(4, 0, 1)", x.tray(4, 0, 1), 1);
        Check.no(x, "tray(0, -1, 1)", x.tray(0, -1, 1), 1);
        Check.no(x, "tray(0, 4, 61)", x.tray(0, 4, 61), 1);
        Check.no(x, "tray(0, 0, 61)", x.tray(0, 0, 61), 5);
        Check.no(x, "tray(0, 0, -1)", x.tray(0, 0, -1), 6);
        Check.none(x, "read(0, 0)", x.read(0, 0), 3);
        Check.fine(x, "tray(0, 0, 0)", x.tray(0, 0, 0));
        Check.none(x, "read(0, 0)", x.read(0, 0), 4);
        Check.fine(x, "tray(0, 3, 60)", x.tray(0, 3, 60));
        Check.fine(x, "read(0, 59)", x.read(0, 59), 0);
        Check.none(x, "read(0, 60)", x.read(0, 60), 4);
        x.write(0, 5, 77);
        Check.no(x, "tray(0, 3, 61)", x.tray(0, 3, 61), 5);
        Check.fine(x, "read(0, 5)", x.read(0, 5), 77);
        Check.fine(x, "tray(0, 3, 9) anew", x.tray(0, 3, 9));
        Check.fine(x, "read(0, 5)", x.read(0, 5), 0);
    }

    private static void writeAndRead() {
        PaperBread x = new PaperBread();
        long v = 0x1234_5678_9abc_def0L;
        long[] cut = {(byte) v, (short) v, (int) v, v};
        for (int sort = 0; sort < 4; sort++) {
            x.tray(sort, sort, 3);
            Check.fine(x, "write", x.write(sort, 2, v));
            Check.fine(x, "read of sort " + sort, x.read(sort, 2), cut[sort]);
            Check.fine(x, "write", x.write(sort, 0, -1));
            Check.fine(x, "read of sort " + sort, x.read(sort, 0), -1);
        }
        x.write(0, 1, 128);
        Check.fine(x, "read", x.read(0, 1), -128);
        x.write(1, 1, 65535);
        Check.fine(x, "read", x.read(1, 1), -1);
        x.write(2, 1, 1L << 31);
        Check.fine(x, "read", x.read(2, 1), Integer.MIN_VALUE);
        Check.no(x, "write(-1, 0, 1)", x.write(-1, 0, 1), 1);
        Check.no(x, "write(4, 0, 1)", x.write(4, 0, 1), 1);
        Check.no(x, "write(0, 3, 1)", x.write(0, 3, 1), 4);
        Check.no(x, "write(0, -1, 1)", x.write(0, -1, 1), 4);
        Check.none(x, "read(4, 0)", x.read(4, 0), 1);
        Check.none(x, "read(0, 3)", x.read(0, 3), 4);
        Check.none(x, "read(0, min)", x.read(0, Integer.MIN_VALUE), 4);
        Check.none(x, "read(0, max)", x.read(0, Integer.MAX_VALUE), 4);
        PaperBread y = new PaperBread();
        Check.no(y, "write(2, 0, 1)", y.write(2, 0, 1), 3);
    }

    private static void pour() {
        PaperBread x = new PaperBread();
        x.tray(0, 1, 5);
        for (int i = 0; i < 5; i++) {
            x.write(0, i, i + 1);
        }
        Check.no(x, "pour(0, 0, 4, 0, -1)", x.pour(0, 0, 4, 0, -1), 1);
        Check.no(x, "pour(-1, 0, 0, 0, 1)", x.pour(-1, 0, 0, 0, 1), 1);
        Check.no(x, "pour(0, 0, 1, 0, -1)", x.pour(0, 0, 1, 0, -1), 3);
        Check.no(x, "pour(1, 0, 0, 0, -1)", x.pour(1, 0, 0, 0, -1), 3);
        x.tray(1, 2, 3);
        Check.no(x, "pour(0, 0, 1, 0, -1)", x.pour(0, 0, 1, 0, -1), 11);
        x.tray(1, 1, 3);
        Check.no(x, "pour(0, 9, 1, 0, -1)", x.pour(0, 9, 1, 0, -1), 6);
        Check.no(x, "pour(0, 0, 1, 0, 4)", x.pour(0, 0, 1, 0, 4), 4);
        Check.no(x, "pour(0, 4, 1, 0, 2)", x.pour(0, 4, 1, 0, 2), 4);
        Check.no(x, "pour(0, -1, 1, 0, 1)", x.pour(0, -1, 1, 0, 1), 4);
        Check.no(x, "pour(0, 0, 1, -1, 1)", x.pour(0, 0, 1, -1, 1), 4);
        Check.no(x, "pour(0, 1, 1, 1, max)", x.pour(0, 1, 1, 1, Integer.MAX_VALUE), 4);
        Check.fine(x, "pour(0, 5, 1, 3, 0)", x.pour(0, 5, 1, 3, 0));
        Check.fine(x, "pour(0, 2, 1, 0, 3)", x.pour(0, 2, 1, 0, 3));
        Check.fine(x, "read(1, 0)", x.read(1, 0), 3);
        Check.fine(x, "read(1, 2)", x.read(1, 2), 5);
        Check.fine(x, "pour(0, 0, 0, 1, 4)", x.pour(0, 0, 0, 1, 4));
        long[] forth = {1, 1, 2, 3, 4};
        for (int i = 0; i < 5; i++) {
            Check.fine(x, "poured on, place " + i, x.read(0, i), forth[i]);
        }
        Check.fine(x, "pour(0, 2, 0, 0, 3)", x.pour(0, 2, 0, 0, 3));
        long[] back = {2, 3, 4, 3, 4};
        for (int i = 0; i < 5; i++) {
            Check.fine(x, "poured back, place " + i, x.read(0, i), back[i]);
        }
    }

    public static void main(String[] args) {
        newObject();
        status();
        fraction();
        tray();
        writeAndRead();
        pour();
        Check.end();
    }
}
