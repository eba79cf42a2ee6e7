/** Promises 44 to 46: DAYS that are lived, by draws. */
public final class DaysTest {
    private static final String TOWN = "person ann purse 20;person bob purse 5;oven hot rain 8;oven old rain 16;"
            + "loaf rye by ann in hot on 2 slices 11 flour 30;loaf oat by bob in old on 1 slices 7 flour 20;"
            + "loaf ink by ann on 3 slices 5 flour 0;promise 6 of rye from ann to bob for 4;";

    /** By this seed it does not RAIN on the OVEN hot on DAY 2. */
    private static final int DRY = 1;

    private static void lived(PaperBread x, String days, int... due) {
        for (int what = 0; what < due.length; what++) {
            Check.fine(x, "lived(" + what + ") of " + days, x.lived(what), due[what]);
        }
    }

    /** Lives DAYS on a new object; due: the STEPS done, then what lived() tells. */
    private static PaperBread live(String days, int seed, int done, int... due) {
        PaperBread x = Check.of(TOWN, days);
        Check.fine(x, "live(" + seed + ") of " + days, x.live(seed), done);
        lived(x, days, due);
        return x;
    }

    private static void wrong() {
        PaperBread x = Check.of(TOWN);
        Check.none(x, "live(-1)", x.live(-1), 5);
        Check.none(x, "live(10000)", x.live(10000), 5);
        Check.none(x, "live(0)", x.live(0), 8);
        Check.none(x, "lived(0)", x.lived(0), 8);
        Check.none(x, "lived(5)", x.lived(5), 5);
        Check.none(x, "lived(-1)", x.lived(-1), 5);
        Check.no(x, "odds(2, 0, 0, 0)", x.odds(2, 0, 0, 0), 2);
        Check.no(x, "odds(0, 0, 0, 1)", x.odds(0, 0, 0, 1), 5);
        Check.no(x, "odds(0, 1000, 0, 1)", x.odds(0, 1000, 0, 1), 5);
        Check.no(x, "odds(0, 1, -1, 1)", x.odds(0, 1, -1, 1), 5);
        Check.no(x, "odds(0, 1, 0, 0)", x.odds(0, 1, 0, 0), 5);
        Check.no(x, "odds(0, 1, 0, 21)", x.odds(0, 1, 0, 21), 5);
        Check.no(x, "odds(0, 1, 9999, 2)", x.odds(0, 1, 9999, 2), 5);
        Check.no(x, "odds(0, 1, max, 20)", x.odds(0, 1, Integer.MAX_VALUE, 20), 5);
        Check.no(x, "odds(0, 1, 9980, 20)", x.odds(0, 1, 9980, 20), 8);
        Check.days(x, "stop;");
        Check.fine(x, "live(9999)", x.live(9999), 1);
        Check.none(x, "live(10000)", x.live(10000), 5);
        Check.fine(x, "lived by the latest with STATUS 0", x.lived(0), 0);
        Check.fraction(x, "odds(0, 1, 9980, 20)", x.odds(0, 1, 9980, 20), 0, 1);
    }

    /** From seed 0: s is 10607, 54220, 11283, 48504, so the draws are 13, 9, 2, 15. */
    private static void draws() {
        PaperBread x = live("wait 1; bake oat; wait 1; bake rye;", 0, 4, 0, 8, 0, 2, 0);
        Check.fine(x, "many(6): 2 is less than 8, 15 less than 16", x.many(6), 3);
        Check.fine(x, "many(4)", x.many(4), 2);
        Check.fine(x, "loaf(1, 5): half of 7", x.loaf(1, 5), 3);
        Check.fine(x, "loaf(0, 5): half of 11", x.loaf(0, 5), 5);
        Check.fine(x, "person(0, 1)", x.person(0, 1), 5);
        Check.fine(x, "person(1, 1)", x.person(1, 1), 3);
        Check.fine(x, "person(0, 2): FACE for what bob did not GET", x.person(0, 2), 6);
        PaperBread y = live("wait 2; bake rye;", 0, 2, 0, 5, 0, 1, 0);
        Check.fine(y, "two DAYS draw as one and one", y.many(6), 3);
        PaperBread d = live("wait 2; bake rye;", DRY, 2, 0, 11, 0, 0, 0);
        Check.fine(d, "another seed", d.many(6), 2);
        PaperBread f = live("wait 1;", 13, 1);
        Check.fine(f, "8 is not less than 8", f.many(6), 2);
        PaperBread g = live("wait 1;", 4, 1);
        Check.fine(g, "7 is less than 8", g.many(6), 3);
        PaperBread e = live("wait 1;", 0, 1);
        Check.fine(e, "DAY 1: 13 is not less than 8", e.many(6), 2);
        PaperBread z = live("wait 9; wait 9; wait 9; wait 9; wait 9; wait 9;"
                + "wait 9; wait 9; wait 9; wait 9; wait 8; wait 9; wait 1;", 7, 13, 1, 0, 0, 0, 0);
        Check.fine(z, "as far as DAY 99", z.many(4), 99);
    }

    /** What can't be is MISSED, and is a STEP all the same. */
    private static void missed() {
        live("bake rye;", 0, 1, 1, 0, 0, 0, 0);
        live("wait 3; bake ink;", 0, 2, 1);
        live("wait 1; bake oat; bake oat;", 0, 3, 1, 3, 0, 1, 0);
        live("eat ann 1;", 0, 1, 1);
        live("pay ann ann 1;", 0, 1, 1);
        live("pay bob ann 2;", 0, 1, 1);
        PaperBread paid = live("pay bob ann 1;", 0, 1, 0);
        Check.fine(paid, "person(0, 0)", paid.person(0, 0), 25);
        live("break 1;", 0, 1, 1);
        live("break 0; break 0;", 0, 2, 1);
        live("wait 2; bake rye; break 0; promise 1 of rye from ann to bob;", 0, 4, 2);
        PaperBread x = live("promise 9 of rye from bob to ann for 3; break 1; break 0;", 0, 3, 0);
        Check.fine(x, "many(3)", x.many(3), 2);
        Check.fine(x, "promise(1, 5)", x.promise(1, 5), 1);
        Check.fine(x, "person(0, 0)", x.person(0, 0), 20);
        Check.fine(x, "person(1, 0)", x.person(1, 0), 5);
        PaperBread y = live("loop 41; promise 1 of ink from ann to bob for 2; end;", 0, 42, 2);
        Check.fine(y, "many(3)", y.many(3), 40);
        Check.fine(y, "person(1, 0)", y.person(1, 0), 1 - 39 * 2);
        PaperBread z = live("wait 2; bake rye; eat bob 2; eat bob 99; eat bob 1;", DRY, 5, 1, 11, 6, 0, 0);
        Check.fine(z, "person(1, 1)", z.person(1, 1), 0);
    }

    private static void tests() {
        live("wait 5; when day < 5; stop; end; when day > 5; stop; end; when day = 5; wait 1; end;", 0, 5);
        live("when day < 1; wait 1; end; when day > 0; wait 1; end;", 0, 4);
        live("wait 2; bake rye; when has bob < 6; stop; end; when has bob > 6; stop; end;"
                + "when has bob = 6; stop; end;", DRY, 6);
        live("wait 1; bake oat; when baked rye; stop; end; when baked oat; stop; end; wait 1;", 0, 5);
        live("when baked rye; stop; end; wait 2; bake rye; when baked rye; stop; end; wait 1;", 0, 5);
        live("when wet old; stop; end; wait 1; when wet hot; stop; end; when wet old; stop; end;", 0, 5);
    }

    private static void loops() {
        live("loop 3; wait 1; end;", 0, 4);
        live("loop 3; end;", 0, 1);
        live("loop 2; loop 3; pay ann bob 1; end; end;", 0, 1 + 2 + 6, 0);
        live("loop 2; when day = 1; stop; end; wait 1; end;", 0, 5);
        live("stop; wait 1;", 0, 1, 0, 0, 0, 0, 0);
        live("loop 99; loop 99; loop 99; end; end; end;", 0, 300, 0, 0, 0, 0, 1);
        // 1 + 99 + 2 * 100 are 300 STEPS, and none is left; by one more there is.
        String most = "loop 99; pay ann ann 1; end;";
        live(most + most + most, 0, 300, 297, 0, 0, 0, 0);
        live(most + most + most + "loop 2; end;", 0, 300, 297, 0, 0, 0, 1);
        live("loop 99; wait 1; pay ann ann 1; wait 1; end; loop 2; end;", 0, 299, 99 + 99, 0, 0, 0, 0);
        live("loop 2;" + most + most + most + "end;", 0, 300, 296, 0, 0, 0, 1);
        live(most + most + "loop 98; pay ann ann 1; end; stop; wait 1;", 0, 300, 296, 0, 0, 0, 0);
        live("", 0, 0, 0, 0, 0, 0, 0);
    }

    private static void again() {
        PaperBread x = live("wait 1; eat bob 1;", 0, 2, 1);
        Check.fine(x, "lives on", x.live(0), 2);
        Check.fine(x, "many(4)", x.many(4), 2);
        Check.fine(x, "lived(0) of the latest", x.lived(0), 1);
    }

    private static void odds() {
        PaperBread x = Check.of(TOWN, "wait 2; bake rye; eat ann 2;");
        x.live(0);
        Check.fine(x, "many(4)", x.many(4), 2);
        PaperBread y = Check.of(TOWN, "wait 2; bake rye;");
        int enough = 0;
        for (int seed = 100; seed < 116; seed++) {
            y.mark();
            y.live(seed);
            enough += y.person(1, 1) >= 6 ? 1 : 0;
            y.back();
        }
        int none = y.lived(3);
        Check.due("some and not all", enough > 0 && enough < 16, true);
        Check.fine(y, "odds", y.odds(1, 6, 100, 16));
        Check.due("the FRACTION", y.top() * 16, enough * y.bottom());
        Check.due("without a common divisor", y.top() % 2 == 0 && y.bottom() % 2 == 0, false);
        Check.fine(y, "all stays as it is: many(4)", y.many(4), 0);
        Check.fine(y, "many(5)", y.many(5), 0);
        Check.fine(y, "person(1, 1)", y.person(1, 1), 0);
        Check.fine(y, "lived(3)", y.lived(3), none);
        // The third draw is 2 from seed 0, 15 from 1, 13 from 2, 10 from 3.
        Check.fraction(y, "WET by the first of three seeds", y.odds(1, 6, 0, 3), 2, 3);
        Check.fraction(y, "dry by all three", y.odds(1, 6, 1, 3), 1, 1);
        Check.fraction(y, "odds of one seed", y.odds(0, 5, 0, 1), 1, 1);
        Check.fraction(y, "more than there is", y.odds(0, 999, 0, 20), 0, 1);
    }

    public static void main(String[] args) {
        wrong();
        draws();
        missed();
        tests();
        loops();
        again();
        odds();
        Check.end();
    }
}
