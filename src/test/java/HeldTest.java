/** Promises 17 to 31: what is held, who gets it, NETS and RINGS. */
public final class HeldTest {
    /** Bob promised 8 and had 6; the BAKER of ink promised of PAPER. */
    private static final String TOWN = "person ann purse 20;person bob purse 5;person cid;person dan;"
            + "oven hot rain 4;loaf rye by ann in hot on 2 slices 11 flour 30;"
            + "loaf oat by bob in hot on 1 slices 7 flour 20;loaf ink by cid on 3 slices 5 flour 0;"
            + "promise 6 of rye from ann to bob for 4;promise 8 of rye from bob to cid;"
            + "promise 3 of oat from bob to ann;promise 2 of rye from cid to ann;"
            + "promise 9 of ink from cid to dan for 2;";

    private static void holds() {
        PaperBread x = Check.of(TOWN);
        int[][] held = {{7, 3, 0}, {-2, 4, 0}, {6, 0, -4}, {0, 0, 9}};
        for (int p = 0; p < 4; p++) {
            for (int l = 0; l < 3; l++) {
                Check.fine(x, "holds(" + p + ", " + l + ")", x.holds(p, l), held[p][l]);
            }
        }
        x.letGo(1);
        Check.fine(x, "holds(1, 0) with it let go", x.holds(1, 0), 6);
        Check.fine(x, "holds(2, 0) with it let go", x.holds(2, 0), -2);
        Check.none(x, "holds(4, 0)", x.holds(4, 0), 2);
        Check.none(x, "holds(-1, 0)", x.holds(-1, 0), 2);
        Check.none(x, "holds(0, 3)", x.holds(0, 3), 2);
        Check.none(x, "holds(0, -1)", x.holds(0, -1), 2);
        x.pass(1);
        x.bake(1);
        Check.fine(x, "holds(0, 1) of one BAKED", x.holds(0, 1), 3);
    }

    /** A row goes on only by PROMISES made later, and begins at the BAKER alone. */
    private static void deep() {
        PaperBread x = Check.of("person a;person b;person c;person d;loaf l by a on 0 slices 9 flour 0;"
                + "loaf m by b on 0 slices 9 flour 0;"
                + "promise 1 of l from b to c;promise 1 of l from a to b;promise 1 of l from c to d;");
        Check.fine(x, "deep(0)", x.deep(0), 1);
        Check.fine(x, "deep(1)", x.deep(1), 0);
        Check.fine(x, "depth(0)", x.depth(0), 0);
        Check.fine(x, "depth(1)", x.depth(1), 1);
        Check.fine(x, "depth(2)", x.depth(2), 0);
        Check.fine(x, "make 3", x.make(1, 0, 1, 2, 0), 3);
        Check.fine(x, "make 4: round to the BAKER", x.make(1, 0, 2, 0, 0), 4);
        Check.fine(x, "make 5: and on from it", x.make(1, 0, 0, 3, 0), 5);
        Check.fine(x, "make 6: of another LOAF", x.make(1, 1, 3, 0, 0), 6);
        Check.fine(x, "depth(3)", x.depth(3), 2);
        Check.fine(x, "depth(4)", x.depth(4), 3);
        Check.fine(x, "depth(5)", x.depth(5), 4);
        Check.fine(x, "depth(6)", x.depth(6), 0);
        Check.fine(x, "deep(0)", x.deep(0), 4);
        x.letGo(4);
        Check.fine(x, "depth(4) let go", x.depth(4), 0);
        Check.fine(x, "depth(5) without it", x.depth(5), 1);
        Check.fine(x, "deep(0)", x.deep(0), 2);
        Check.none(x, "deep(2)", x.deep(2), 2);
        Check.none(x, "deep(-1)", x.deep(-1), 2);
        Check.none(x, "depth(7)", x.depth(7), 2);
        Check.none(x, "depth(-1)", x.depth(-1), 2);
    }

    private static void firstAndLine() {
        PaperBread x = Check.of("person a;person b;person c;person d;person e;"
                + "loaf l by c on 0 slices 9 flour 0;promise 2 of l from c to d;"
                + "promise 1 of l from d to b;promise 3 of l from c to b;promise 1 of l from c to d;");
        Check.fine(x, "first(3, 1, 0)", x.first(3, 1, 0), 3);
        Check.fine(x, "first(1, 3, 0)", x.first(1, 3, 0), 3);
        Check.fine(x, "first(3, 2, 0)", x.first(3, 2, 0), 2);
        Check.fine(x, "first(0, 1, 0)", x.first(0, 1, 0), 1);
        Check.none(x, "first(0, 4, 0)", x.first(0, 4, 0), 8);
        Check.none(x, "first(0, 0, 0)", x.first(0, 0, 0), 5);
        Check.none(x, "first(5, 5, 0)", x.first(5, 5, 0), 2);
        Check.none(x, "first(0, 5, 0)", x.first(0, 5, 0), 2);
        Check.none(x, "first(0, 1, 1)", x.first(0, 1, 1), 2);
        int[] line = {2, 3, 1};
        for (int k = 0; k < 3; k++) {
            Check.fine(x, "line(0, " + k + ")", x.line(0, k), line[k]);
        }
        Check.none(x, "line(0, 3)", x.line(0, 3), 8);
        Check.none(x, "line(0, -1)", x.line(0, -1), 8);
        Check.none(x, "line(1, 0)", x.line(1, 0), 2);
        x.letGo(0);
        Check.fine(x, "first(3, 1, 0) when its first was let go", x.first(3, 1, 0), 1);
        Check.fine(x, "d HOLDS 0", x.holds(3, 0), 0);
        Check.none(x, "line(0, 2)", x.line(0, 2), 8);
        x.letGo(3);
        Check.fine(x, "first(3, 1, 0)", x.first(3, 1, 0), 1);
        Check.none(x, "first(3, 0, 0) when all were let go", x.first(3, 0, 0), 8);
    }

    private static void whoseAndGets() {
        PaperBread x = Check.of(TOWN);
        int[] dry = {7, 0, 4, 0};
        int[] wet = {5, 0, 0, 0};
        for (int p = 0; p < 4; p++) {
            Check.fine(x, "gets(" + p + ", 0, false)", x.gets(p, 0, false), dry[p]);
            Check.fine(x, "gets(" + p + ", 0, true)", x.gets(p, 0, true), wet[p]);
        }
        Check.none(x, "gets(2, 2, false)", x.gets(2, 2, false), 9);
        Check.none(x, "gets(4, 2, false)", x.gets(4, 2, false), 2);
        Check.none(x, "gets(0, 3, false)", x.gets(0, 3, false), 2);
        Check.fine(x, "whose(0, 0, false)", x.whose(0, 0, false), 0);
        Check.fine(x, "whose(0, 6, false)", x.whose(0, 6, false), 0);
        Check.fine(x, "whose(0, 7, false)", x.whose(0, 7, false), 2);
        Check.fine(x, "whose(0, 10, false)", x.whose(0, 10, false), 2);
        Check.none(x, "whose(0, 11, false)", x.whose(0, 11, false), 8);
        Check.fine(x, "whose(0, 4, true)", x.whose(0, 4, true), 0);
        Check.none(x, "whose(0, 5, true)", x.whose(0, 5, true), 8);
        Check.none(x, "whose(0, -1, true)", x.whose(0, -1, true), 8);
        Check.none(x, "whose(2, 99, true)", x.whose(2, 99, true), 9);
        Check.none(x, "whose(3, 0, true)", x.whose(3, 0, true), 2);
        x.pass(2);
        x.bake(0);
        Check.none(x, "whose(0, 99, false)", x.whose(0, 99, false), 9);
        Check.none(x, "gets(0, 0, false)", x.gets(0, 0, false), 9);
    }

    private static void betweenAndNet() {
        PaperBread x = Check.of(TOWN);
        Check.fine(x, "between(0, 1)", x.between(0, 1), 3);
        Check.fine(x, "between(1, 0)", x.between(1, 0), -3);
        Check.fine(x, "between(0, 2)", x.between(0, 2), -2);
        Check.fine(x, "between(0, 3)", x.between(0, 3), 0);
        Check.none(x, "between(0, 0)", x.between(0, 0), 5);
        Check.none(x, "between(4, 4)", x.between(4, 4), 2);
        Check.none(x, "between(0, -1)", x.between(0, -1), 2);
        int[] net = {-1, -5, -3, 9};
        for (int p = 0; p < 4; p++) {
            Check.fine(x, "net(" + p + ")", x.net(p), net[p]);
        }
        x.letGo(4);
        Check.fine(x, "net(3)", x.net(3), 0);
        Check.fine(x, "net(2)", x.net(2), 6);
        Check.fine(x, "between(2, 3)", x.between(2, 3), 0);
        Check.none(x, "net(4)", x.net(4), 2);
        Check.none(x, "net(-1)", x.net(-1), 2);
    }

    private static void shameAndOwing() {
        PaperBread x = Check.of(TOWN);
        Check.fine(x, "shame(0, false)", x.shame(0, false), 4);
        Check.fine(x, "shame(0, true)", x.shame(0, true), 8);
        Check.fine(x, "shame(1, false)", x.shame(1, false), 0);
        Check.fine(x, "shame(1, true)", x.shame(1, true), 3);
        Check.fine(x, "shame(2, false)", x.shame(2, false), 13);
        Check.fine(x, "shame(2, true)", x.shame(2, true), 13);
        Check.none(x, "shame(3, true)", x.shame(3, true), 2);
        Check.fine(x, "owing(0)", x.owing(0), 2);
        Check.fine(x, "owing(1)", x.owing(1), 0);
        Check.fine(x, "owing(2)", x.owing(2), 4);
        Check.none(x, "owing(3)", x.owing(3), 2);
        x.pass(1);
        x.bake(1);
        Check.none(x, "shame(1, false)", x.shame(1, false), 9);
        Check.fine(x, "owing(1)", x.owing(1), 0);
    }

    private static void mean() {
        PaperBread x = Check.of(TOWN);
        Check.fraction(x, "mean(0, 0, 0)", x.mean(0, 0, 0), 13, 2);
        Check.fraction(x, "mean(0, 0, 1)", x.mean(0, 0, 1), 13, 14);
        Check.fraction(x, "mean(2, 0, 0)", x.mean(2, 0, 0), 3, 1);
        Check.fraction(x, "mean(2, 0, 1)", x.mean(2, 0, 1), 1, 2);
        Check.fraction(x, "mean(3, 0, 0)", x.mean(3, 0, 0), 0, 1);
        Check.no(x, "mean(3, 0, 1)", x.mean(3, 0, 1), 8);
        Check.no(x, "mean(1, 0, 1)", x.mean(1, 0, 1), 8);
        Check.fraction(x, "mean(1, 0, 0)", x.mean(1, 0, 0), 0, 1);
        Check.no(x, "mean(2, 2, 1)", x.mean(2, 2, 1), 9);
        Check.no(x, "mean(2, 2, 2)", x.mean(2, 2, 2), 5);
        Check.no(x, "mean(2, 2, -1)", x.mean(2, 2, -1), 5);
        Check.no(x, "mean(4, 0, 2)", x.mean(4, 0, 2), 2);
        Check.no(x, "mean(0, 3, 0)", x.mean(0, 3, 0), 2);
        x.pass(2);
        x.bake(0);
        Check.no(x, "mean(3, 0, 1)", x.mean(3, 0, 1), 9);
        PaperBread y = Check.of("person a;oven o rain 16;oven p;loaf l by a in o on 1 slices 5 flour 1;"
                + "loaf m by a in p on 1 slices 5 flour 1;");
        Check.fraction(y, "it always RAINS", y.mean(0, 0, 0), 2, 1);
        Check.fraction(y, "it never RAINS", y.mean(0, 1, 0), 5, 1);
        PaperBread z = Check.of("person a;person b;oven o rain 1;loaf l by a in o on 1 slices 1 flour 1;"
                + "promise 1 of l from a to b;");
        Check.fraction(z, "WORTH of one alone", z.mean(1, 0, 1), 15, 16);
    }

    private static void handOvers() {
        String eight = "person a;person b;person c;person d;person e;person f;person g;person h;"
                + "loaf l by a on 0 slices 9 flour 0;";
        Check.due("no PROMISES", Check.of(eight).handOvers(), 0);
        Check.due("a ring of equals", Check.of(eight + "promise 2 of l from a to b;"
                + "promise 2 of l from b to c;promise 2 of l from c to a;").handOvers(), 0);
        Check.due("one pair by another", Check.of(eight + "promise 2 of l from a to b;"
                + "promise 2 of l from b to c;").handOvers(), 1);
        Check.due("three of four", Check.of(eight + "promise 5 of l from a to b;"
                + "promise 3 of l from a to c;promise 1 of l from d to c;").handOvers(), 3);
        // NETS -5, -3, 4, 4: no pair is 0 together; -5, -4, 5, 4: two pairs are.
        Check.due("none less", Check.of(eight + "promise 4 of l from a to c;promise 1 of l from a to d;"
                + "promise 3 of l from b to d;").handOvers(), 3);
        Check.due("two pairs", Check.of(eight + "promise 4 of l from a to c;promise 1 of l from a to d;"
                + "promise 4 of l from b to d;promise 0001 of l from d to c;promise 1 of l from a to d;"
                + "promise 1 of l from c to a;").handOvers(), 2);
        // NETS -6, -5, -4, 7, 8, and by that two groups: -6 -5 -4 7 8 is one of five.
        Check.due("five in one", Check.of(eight + "promise 6 of l from a to d;promise 1 of l from b to d;"
                + "promise 4 of l from b to e;promise 4 of l from c to e;").handOvers(), 4);
        PaperBread x = Check.of(TOWN);
        Check.fine(x, "handOvers()", x.handOvers(), 3);
    }

    private static void ring() {
        PaperBread x = Check.of("person a;person b;person c;person d;loaf l by a on 0 slices 9 flour 0;"
                + "loaf m by b on 0 slices 9 flour 0;promise 1 of l from a to b;promise 1 of m from b to c;"
                + "promise 1 of l from c to d;promise 1 of m from d to a;");
        Check.none(x, "ringAt(0) ahead of ring()", x.ringAt(0), 8);
        Check.fine(x, "ring()", x.ring(), 4);
        for (int k = 0; k < 4; k++) {
            Check.fine(x, "ringAt(" + k + ")", x.ringAt(k), k);
        }
        Check.none(x, "ringAt(4)", x.ringAt(4), 8);
        Check.none(x, "ringAt(-1)", x.ringAt(-1), 8);
        Check.fine(x, "make 4", x.make(1, 0, 3, 1, 0), 4);
        Check.fine(x, "ringAt by ring() latest", x.ringAt(3), 3);
        Check.fine(x, "a shorter one", x.ring(), 3);
        int[] three = {1, 2, 4};
        for (int k = 0; k < 3; k++) {
            Check.fine(x, "ringAt(" + k + ")", x.ringAt(k), three[k]);
        }
        x.make(1, 0, 3, 2, 0);
        x.make(1, 0, 1, 0, 0);
        x.make(1, 0, 0, 1, 0);
        Check.fine(x, "the first of several", x.ring(), 2);
        Check.fine(x, "ringAt(0)", x.ringAt(0), 0);
        Check.fine(x, "ringAt(1)", x.ringAt(1), 6);
        x.letGo(0);
        x.letGo(7);
        Check.fine(x, "without those let go", x.ring(), 2);
        Check.fine(x, "ringAt(0)", x.ringAt(0), 2);
        Check.fine(x, "ringAt(1)", x.ringAt(1), 5);
        x.letGo(2);
        x.letGo(6);
        Check.none(x, "ring()", x.ring(), 8);
        Check.fine(x, "ringAt(1) by the latest with STATUS 0", x.ringAt(1), 5);
    }

    /** As much as a TOWN can have: eight persons, eight LOAVES, forty PROMISES, a RING of eight. */
    private static void fullHouse() {
        StringBuilder text = new StringBuilder();
        for (char c = 'a'; c <= 'h'; c++) {
            text.append("person ").append(c).append(";");
        }
        text.append("oven w;oven x;oven y;oven z rain 16;");
        for (char c = 'a'; c <= 'h'; c++) {
            text.append("loaf l").append(c).append(" by ").append(c).append(" in z on 0 slices 9 flour 9;");
        }
        PaperBread x = Check.of(text.toString());
        for (int i = 0; i < 40; i++) {
            Check.fine(x, "make " + i, x.make(1 + i / 8, i % 8, i % 8, (i + 1) % 8, i), i);
        }
        Check.fine(x, "ring()", x.ring(), 8);
        for (int k = 0; k < 8; k++) {
            Check.fine(x, "ringAt(" + k + ")", x.ringAt(k), k);
        }
        x.tray(0, 0, 60);
        for (int p = 0; p < 8; p++) {
            Check.fine(x, "net(" + p + ")", x.net(p), 0);
            Check.fine(x, "depth(" + (32 + p) + ")", x.depth(32 + p), 1);
            Check.fine(x, "holds(" + p + ", 7)", x.holds(p, 7), p == 7 ? -6 : p == 0 ? 15 : 0);
            Check.fine(x, "gets(" + p + ", 7, false)", x.gets(p, 7, false), p == 0 ? 9 : 0);
            Check.fine(x, "owing(" + p + ")", x.owing(p), 1 << p);
            Check.none(x, "keeps(" + p + ", 0, 60)", x.keeps(p, 0, 60), 8);
            Check.fine(x, "saved(" + p + ", 9, 1)", x.saved(p, 9, 1), 1 << (p + 7) % 8);
        }
        Check.fine(x, "handOvers()", x.handOvers(), 0);
        Check.fine(x, "between(7, 0)", x.between(7, 0), 15);
        Check.none(x, "faces()", x.faces(), 9);
        Check.none(x, "burst()", x.burst(), 8);
        Check.due("days", Check.days(x, "bake lh; wait 1; when wet z; eat a 8; end;"), 4);
        Check.fine(x, "live(5)", x.live(5), 4);
        Check.fine(x, "many(6)", x.many(6), 8);
        Check.fine(x, "many(5)", x.many(5), 128);
        Check.fine(x, "person(0, 1)", x.person(0, 1), 1);
    }

    public static void main(String[] args) {
        fullHouse();
        holds();
        deep();
        firstAndLine();
        whoseAndGets();
        betweenAndNet();
        shameAndOwing();
        mean();
        handOvers();
        ring();
        Check.end();
    }
}
