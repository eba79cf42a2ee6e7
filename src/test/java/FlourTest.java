/** Promises 32 to 37: flour, days to keep, the TRUE LOAF, the auction. */
public final class FlourTest {
    private static final String TOWN = "person ann;person bob;person cid;oven hot rain 16;"
            + "loaf rye by ann in hot on 2 slices 10 flour 30;loaf oat by bob in hot on 1 slices 7 flour 20;"
            + "loaf ink by cid on 3 slices 50 flour 0;loaf fig by cid in hot on 4 slices 6 flour 50;"
            + "loaf bun by cid in hot on 5 slices 3 flour 20;"
            + "promise 6 of rye from ann to bob;promise 6 of fig from cid to bob;"
            + "promise 20 of ink from cid to bob;promise 3 of bun from cid to bob;";

    private static void saved() {
        PaperBread x = Check.of(TOWN);
        // Bob GETS 6 of rye (30), 7 of oat (20), 6 of fig (50), 3 of bun (20), of ink nothing.
        int[][] due = {{1, 20, 2}, {7, 20, 2}, {8, 40, 18}, {10, 40, 18}, {11, 50, 3}, {13, 50, 3},
            {14, 70, 19}, {16, 70, 19}, {17, 100, 11}, {19, 100, 11}, {20, 120, 27}, {22, 120, 27}};
        for (int[] row : due) {
            Check.fine(x, "saved(1, " + row[0] + ", 0)", x.saved(1, row[0], 0), row[1]);
            Check.fine(x, "saved(1, " + row[0] + ", 1)", x.saved(1, row[0], 1), row[2]);
        }
        Check.none(x, "saved(1, 23, 0)", x.saved(1, 23, 0), 9);
        Check.fine(x, "alike: the least set", x.saved(1, 3, 1), 2);
        Check.none(x, "saved(1, 0, 0)", x.saved(1, 0, 0), 5);
        Check.none(x, "saved(1, 1000, 0)", x.saved(1, 1000, 0), 5);
        Check.none(x, "saved(1, 999, 0)", x.saved(1, 999, 0), 9);
        Check.none(x, "saved(1, 1, 2)", x.saved(1, 1, 2), 5);
        Check.none(x, "saved(1, 1, -1)", x.saved(1, 1, -1), 5);
        Check.none(x, "saved(3, 0, 0)", x.saved(3, 0, 0), 2);
        x.pass(1);
        x.bake(1);
        Check.fine(x, "one BAKED is none of them", x.saved(1, 7, 1), 17);
        x.pass(9);
        Check.fine(x, "a DAY gone by is no bar", x.saved(1, 7, 0), 50);
    }

    private static void faces() {
        PaperBread x = Check.of(TOWN);
        Check.fine(x, "faces()", x.faces(), 100);
        x.make(1, 1, 1, 0, 0);
        Check.fine(x, "one of oat, too", x.faces(), 120);
        x.make(4, 0, 0, 1, 0);
        Check.fine(x, "all of rye is dealt", x.faces(), 120);
        x.make(1, 0, 0, 1, 0);
        Check.none(x, "one more of rye than there is", x.faces(), 9);
        x.pass(2);
        x.bake(0);
        Check.fine(x, "rye is BAKED", x.faces(), 90);
        PaperBread y = Check.of("person a;person b;oven o;loaf l by a in o on 0 slices 3 flour 9;"
                + "promise 5 of l from b to a;");
        Check.fine(y, "none but the BAKER HOLDS any", y.faces(), 0);
        Check.fine(new PaperBread(), "faces()", new PaperBread().faces(), 0);
    }

    private static void keeps() {
        PaperBread x = Check.of(TOWN);
        Check.none(x, "keeps(9, 4, 1)", x.keeps(9, 4, 1), 1);
        Check.none(x, "keeps(9, 0, 1)", x.keeps(9, 0, 1), 2);
        Check.none(x, "keeps(1, 0, 1)", x.keeps(1, 0, 1), 3);
        x.tray(0, 1, 6);
        Check.none(x, "keeps(1, 0, 7)", x.keeps(1, 0, 7), 4);
        Check.none(x, "keeps(1, 0, 61)", x.keeps(1, 0, 61), 4);
        Check.none(x, "keeps(1, 0, 0)", x.keeps(1, 0, 0), 5);
        Check.none(x, "keeps(1, 0, min)", x.keeps(1, 0, Integer.MIN_VALUE), 5);
        Check.none(x, "asked for nothing", x.keeps(1, 0, 6), 8);
        // Bob has 7 by DAY 1, 13 by 2, 19 by 4, 22 by 5.
        x.write(0, 1, 4);
        x.write(0, 2, 9);
        Check.none(x, "keeps(1, 0, 3)", x.keeps(1, 0, 3), 8);
        x.write(0, 3, 1);
        Check.none(x, "keeps(1, 0, 3)", x.keeps(1, 0, 3), 8);
        Check.fine(x, "keeps(1, 0, 6)", x.keeps(1, 0, 6), 3);
        x.write(0, 3, 0);
        x.write(0, 5, 9);
        Check.none(x, "all of it", x.keeps(1, 0, 6), 8);
        x.write(0, 5, 10);
        Check.fine(x, "keeps(1, 0, 6)", x.keeps(1, 0, 6), 5);
        x.write(0, 0, 1);
        Check.fine(x, "keeps(1, 0, 1)", x.keeps(1, 0, 1), 0);
        x.write(0, 4, 999);
        Check.fine(x, "999 may be asked", x.keeps(1, 0, 5), 0);
        x.write(0, 4, 1000);
        Check.none(x, "keeps(1, 0, 5)", x.keeps(1, 0, 5), 5);
        Check.fine(x, "keeps(1, 0, 4)", x.keeps(1, 0, 4), 0);
        x.write(0, 4, -1);
        Check.none(x, "keeps(1, 0, 6)", x.keeps(1, 0, 6), 5);
        x.write(0, 0, 0);
        x.pass(1);
        x.bake(1);
        x.eat(1, 7);
        Check.none(x, "what is BAKED or eaten counts alike", x.keeps(1, 0, 3), 8);
    }

    private static void burst() {
        PaperBread x = Check.of("person a;person b;oven o;loaf l by a on 5 slices 3 flour 9;"
                + "loaf m by a on 3 slices 3 flour 9;loaf n by a on 1 slices 3 flour 9;"
                + "loaf k by a in o on 1 slices 3 flour 9;promise 1 of k from a to b;");
        Check.none(x, "burst()", x.burst(), 8);
        x.make(1, 0, 0, 1, 0);
        Check.fine(x, "burst()", x.burst(), 5);
        x.make(1, 1, 0, 1, 0);
        Check.fine(x, "burst()", x.burst(), 3);
        x.make(1, 2, 1, 0, 0);
        Check.fine(x, "the BAKER alone HOLDS n", x.burst(), 3);
        x.pass(3);
        Check.fine(x, "today", x.burst(), 3);
        x.pass(1);
        Check.fine(x, "from today on", x.burst(), 5);
        x.pass(2);
        Check.none(x, "burst()", x.burst(), 8);
    }

    private static void cuts() {
        PaperBread x = new PaperBread();
        Check.fine(x, "cuts(5, 2, 5, 2, 0)", x.cuts(5, 2, 5, 2, 0), 0);
        Check.fine(x, "cuts(5, 2, 5, 2, 1)", x.cuts(5, 2, 5, 2, 1), 0);
        Check.fine(x, "alike: it CUTS", x.cuts(4, 3, 40, 4, 1), 0);
        Check.none(x, "nobody would", x.cuts(4, 3, 40, 5, 0), 8);
        Check.fine(x, "cuts(60, 8, 40, 60, 0)", x.cuts(60, 8, 40, 60, 0), 0);
        Check.fine(x, "cuts(1, 2, 1, 0, 1)", x.cuts(1, 2, 1, 0, 1), 0);
        int[][] wrong = {{0, 2, 1, 0, 0}, {61, 2, 1, 0, 0}, {1, 1, 1, 0, 0}, {1, 9, 1, 0, 0},
            {1, 2, 0, 0, 0}, {1, 2, 41, 0, 0}, {1, 2, 1, -1, 0}, {1, 2, 1, 61, 0}, {1, 2, 1, 0, 2},
            {1, 2, 1, 0, -1}};
        for (int[] w : wrong) {
            Check.none(x, "cuts" + java.util.Arrays.toString(w), x.cuts(w[0], w[1], w[2], w[3], w[4]), 5);
        }
    }

    private static void auction() {
        PaperBread x = new PaperBread();
        Check.none(x, "auction(4, 9, 9)", x.auction(4, 9, 9), 1);
        Check.none(x, "auction(3, 9, 9)", x.auction(3, 9, 9), 3);
        x.tray(3, 2, 9);
        Check.none(x, "auction(3, 10, 9)", x.auction(3, 10, 9), 4);
        Check.none(x, "auction(3, 9, 0)", x.auction(3, 9, 0), 5);
        Check.none(x, "auction(3, 0, 0)", x.auction(3, 0, 0), 5);
        Check.none(x, "auction(3, -1, 0)", x.auction(3, -1, 0), 5);
        Check.none(x, "auction(3, 8, 2)", x.auction(3, 8, 2), 5);
        Check.none(x, "auction(3, 8, -1)", x.auction(3, 8, -1), 5);
        Check.none(x, "auction(3, 8, 0)", x.auction(3, 8, 0), 8);
        x.write(3, 2, 7);
        Check.fine(x, "auction(3, 8, 0)", x.auction(3, 8, 0), 2);
        Check.fine(x, "auction(3, 8, 1)", x.auction(3, 8, 1), 0);
        Check.none(x, "auction(3, 2, 1)", x.auction(3, 2, 1), 8);
        x.write(3, 5, 9);
        x.write(3, 0, 8);
        Check.fine(x, "auction(3, 8, 0)", x.auction(3, 8, 0), 5);
        Check.fine(x, "auction(3, 8, 1)", x.auction(3, 8, 1), 8);
        x.write(3, 7, 9);
        Check.fine(x, "auction(3, 8, 0)", x.auction(3, 8, 0), 5);
        Check.fine(x, "auction(3, 8, 1)", x.auction(3, 8, 1), 9);
        Check.fine(x, "auction(3, 1, 0)", x.auction(3, 1, 0), 0);
        Check.fine(x, "auction(3, 1, 1)", x.auction(3, 1, 1), 0);
        x.write(3, 1, 9999);
        Check.fine(x, "auction(3, 8, 0)", x.auction(3, 8, 0), 1);
        x.write(3, 4, 10000);
        Check.none(x, "auction(3, 8, 0)", x.auction(3, 8, 0), 5);
        Check.fine(x, "auction(3, 4, 0)", x.auction(3, 4, 0), 1);
        x.write(3, 4, -1);
        Check.none(x, "auction(3, 8, 0)", x.auction(3, 8, 0), 5);
    }

    public static void main(String[] args) {
        saved();
        faces();
        keeps();
        burst();
        cuts();
        auction();
        Check.end();
    }
}
