import java.util.function.Supplier;

/** The sentences of promises 32 to 37: flour, days, the TRUE LOAF, crumbs, one test each. */
public final class EdgesFlourTest {
    private static final int MIN = Edges.MIN;
    private static final int MAX = Edges.MAX;
    private static final int[] NO_PERSONS = {-1, 3, 8, MIN, MAX};
    private static final int[] NO_TRAYS = {-1, 4, MIN, MAX};

    /** Ann bakes six LOAVES for herself: of 1, 2, 3, 3 SLICES, one of PAPER, one on DAY 0 to be BAKED. */
    private static final String SIX = "person ann;person bob;person cid;oven hot rain 16;"
            + "loaf rye by ann in hot on 1 slices 1 flour 5;loaf oat by ann in hot on 2 slices 2 flour 5;"
            + "loaf ink by ann on 1 slices 99 flour 0;loaf fig by ann in hot on 3 slices 3 flour 10;"
            + "loaf nut by ann in hot on 3 slices 3 flour 10;loaf bun by ann in hot on 0 slices 50 flour 1;";

    // ---- Terms: SAVED

    private static void saved(PaperBread x, int slices, int flour, int set) {
        Check.fine(x, "saved(0, " + slices + ", 0)", x.saved(0, slices, 0), flour);
        Check.fine(x, "saved(0, " + slices + ", 1)", x.saved(0, slices, 1), set);
    }

    @Sentence(in = "==== 3.", says = "SAVED: for a person, so many SLICES it should GET in all, if it does not RAIN:")
    private static void t3_savedIfItDoesNotRain() {
        PaperBread x = Check.of("person a;person b;oven o rain 16;loaf l by a in o on 1 slices 9 flour 4;"
                + "promise 6 of l from a to b;promise 2 of l from b to a;");
        saved(x, 5, 4, 1);
        Edges.refused("one more", Edges.of("person a;person b;oven o rain 16;loaf l by a in o on 1 slices 9 flour 4;"
                + "promise 4 of l from a to b;", y -> { }), y -> y.saved(0, 6, 0), 9);
        PaperBread y = Check.of("person a;person b;person c;oven o;loaf l by a in o on 1 slices 9 flour 4;"
                + "promise 9 of l from a to b;promise 4 of l from c to a;");
        // a HOLDS 4, b 9, c OWES 4: a GETS 4 as the BAKER, b the other 5.
        Check.fine(y, "saved(1, 5, 0): what it GETS, not what it HOLDS", y.saved(1, 5, 0), 4);
        Check.none(y, "saved(1, 6, 0)", y.saved(1, 6, 0), 9);
    }

    @Sentence(in = "==== 3.", says = "the set of LOAVES (not of PAPER, not BAKED; 1 for LOAF 0 ..)")
    private static void t3_savedNotOfPaperNotBaked() {
        PaperBread x = Check.of(SIX);
        saved(x, 50, 1, 32);
        saved(x, 59, 31, 59);
        Check.none(x, "of PAPER none comes: saved(0, 60, 0)", x.saved(0, 60, 0), 9);
        x.bake(5);
        saved(x, 1, 5, 1);
        saved(x, 9, 30, 27);
        Check.none(x, "what is BAKED is none of them: saved(0, 10, 0)", x.saved(0, 10, 0), 9);
        x.pass(9);
        saved(x, 9, 30, 27);
        PaperBread first = Check.of("person a;oven o;loaf l by a in o on 0 slices 3 flour 0;"
                + "loaf m by a in o on 1 slices 3 flour 7;");
        first.bake(0);
        saved(first, 3, 7, 2);
        Check.none(first, "LOAF 0 is BAKED: saved(0, 4, 0)", first.saved(0, 4, 0), 9);
        PaperBread y = Check.of("person a;person b;oven o;loaf la by b in o on 1 slices 1 flour 0;"
                + "loaf lb by b in o on 1 slices 1 flour 0;loaf lc by b in o on 1 slices 1 flour 0;"
                + "loaf ld by b in o on 1 slices 1 flour 0;loaf le by b in o on 1 slices 1 flour 0;"
                + "loaf lf by b in o on 1 slices 1 flour 0;loaf lg by b in o on 1 slices 1 flour 0;"
                + "loaf lh by a in o on 1 slices 1 flour 0;");
        saved(y, 1, 0, 128);
        Check.fine(y, "seven of the eight", y.saved(1, 7, 1), 127);
    }

    @Sentence(in = "==== 3.", says = "with the least FLOUR together by which it GETS at least so many:")
    private static void t3_savedTheLeastFlour() {
        PaperBread x = Edges.of(SIX, y -> y.bake(5)).get();
        saved(x, 2, 5, 2);
        saved(x, 3, 10, 3);
        saved(x, 4, 15, 9);
        saved(x, 5, 15, 10);
        saved(x, 6, 20, 11);
        saved(x, 7, 25, 25);
        saved(x, 8, 25, 26);
        saved(Check.of(SIX), 1, 1, 32);
        saved(Check.of(SIX), 51, 6, 33);
    }

    @Sentence(in = "==== 3.", says = "of several the least set.")
    private static void t3_savedOfSeveralTheLeastSet() {
        PaperBread x = Edges.of(SIX, y -> y.bake(5)).get();
        // One SLICE: rye alone (1), not oat alone (2). Three: rye and oat (3), not fig (8) or nut (16).
        saved(x, 1, 5, 1);
        saved(x, 3, 10, 3);
        PaperBread y = Check.of("person a;oven o;loaf l by a in o on 1 slices 3 flour 0;"
                + "loaf m by a in o on 1 slices 3 flour 0;");
        saved(y, 3, 0, 1);
        saved(y, 4, 0, 3);
    }

    // ---- Terms: FACES

    @Sentence(in = "==== 3.", says = "FACES: the FLOUR of all LOAVES (not of PAPER, not BAKED) of which others than their BAKERS HOLD any:")
    private static void t3_facesNotOfPaperNotBaked() {
        PaperBread x = Check.of(SIX);
        Check.fine(x, "others HOLD none", x.faces(), 0);
        x.make(1, 0, 0, 1, 0);
        Check.fine(x, "one of rye", x.faces(), 5);
        x.make(99, 2, 0, 1, 0);
        Check.fine(x, "ink is of PAPER", x.faces(), 5);
        x.make(1, 5, 0, 2, 0);
        Check.fine(x, "one of bun", x.faces(), 6);
        x.bake(5);
        Check.fine(x, "bun is BAKED", x.faces(), 5);
        x.make(1, 0, 1, 2, 0);
        Check.fine(x, "handed on to cid", x.faces(), 5);
        x.make(1, 0, 2, 0, 0);
        Check.fine(x, "and back to ann", x.faces(), 0);
        PaperBread nobody = new PaperBread();
        Check.fine(nobody, "of nobody", nobody.faces(), 0);
    }

    @Sentence(in = "==== 3.", says = "with less some BAKER would lose FACE.")
    private static void t3_facesAllOfThem() {
        PaperBread x = Check.of(SIX);
        for (int loaf : new int[] {0, 1, 3, 4, 5}) {
            x.make(1, loaf, 0, 1, 0);
        }
        Check.fine(x, "all but ink", x.faces(), 31);
    }

    // ---- Terms: KEEPS

    /** Ann GETS 50 on DAY 0, 1 on DAY 1, 2 on DAY 2, 6 on DAY 3. */
    private static Supplier<PaperBread> asked(long... numbers) {
        return Edges.of(SIX, x -> {
            x.tray(0, 2, numbers.length);
            for (int i = 0; i < numbers.length; i++) {
                x.write(0, i, numbers[i]);
            }
        });
    }

    private static void keepsAlways(PaperBread x, String call, int many) {
        Check.none(x, call, x.keeps(0, 0, many), 8);
    }

    @Sentence(in = "==== 3.", says = "KEEPS: a TRAY has for DAYS 0, 1 .. how many SLICES are asked of a person then: it gives what it GOT by then and has not given,")
    private static void t3_keepsWhatItGotAndHasNotGiven() {
        keepsAlways(asked(50, 1, 2, 6).get(), "all on its DAY", 4);
        keepsAlways(asked(0, 0, 0, 59).get(), "all at last", 4);
        PaperBread x = asked(51).get();
        Check.fine(x, "one more than on DAY 0", x.keeps(0, 0, 1), 0);
        PaperBread y = asked(49, 3).get();
        Check.fine(y, "given is given", y.keeps(0, 0, 2), 1);
        keepsAlways(asked(49, 2).get(), "what was not given is there", 2);
    }

    @Sentence(in = "==== 3.", says = "as if each LOAF (not of PAPER) were BAKED on its DAY without RAIN, by what is HELD now:")
    private static void t3_keepsAsIfBaked() {
        PaperBread x = asked(50, 1, 3).get();
        Check.fine(x, "ink is of PAPER, and it would not RAIN", x.keeps(0, 0, 3), 2);
        x.bake(5);
        x.eat(0, 50);
        Check.fine(x, "as if: what is BAKED and eaten counts", x.keeps(0, 0, 3), 2);
        x.pass(9);
        Check.fine(x, "as if: DAYS gone by, too", x.keeps(0, 0, 3), 2);
        x.make(1, 0, 0, 1, 0);
        Check.fine(x, "by what is HELD now", x.keeps(0, 0, 3), 1);
        PaperBread late = Check.of("person a;oven o;loaf l by a in o on 59 slices 7 flour 0;");
        late.tray(0, 0, 60);
        late.write(0, 59, 7);
        Check.none(late, "on DAY 59", late.keeps(0, 0, 60), 8);
        late.write(0, 58, 1);
        Check.fine(late, "not on DAY 58", late.keeps(0, 0, 60), 58);
    }

    @Sentence(in = "==== 3.", says = "the first DAY on which it can't.")
    private static void t3_keepsTheFirstDay() {
        PaperBread x = asked(0, 52, 99, 0).get();
        Check.fine(x, "the first of two", x.keeps(0, 0, 4), 1);
        keepsAlways(x, "asked for DAY 0 alone", 1);
    }

    // ---- Terms: BURST

    private static final String PAPERS = "person a;person b;oven o;loaf k by a in o on 1 slices 3 flour 9;"
            + "loaf l by a on 5 slices 3 flour 9;loaf m by a on 3 slices 3 flour 9;loaf n by a on 99 slices 3 flour 9;"
            + "promise 1 of k from a to b;promise 1 of l from a to b;promise 1 of m from a to b;promise 1 of n from a to b;";

    @Sentence(in = "==== 3.", says = "BURST: the first DAY from today on of a LOAF of PAPER")
    private static void t3_burstFromTodayOn() {
        PaperBread x = Check.of(PAPERS);
        Check.fine(x, "the first, of PAPER", x.burst(), 3);
        x.pass(3);
        Check.fine(x, "today", x.burst(), 3);
        x.pass(1);
        Check.fine(x, "from today on", x.burst(), 5);
        x.pass(1);
        Check.fine(x, "today", x.burst(), 5);
        x.pass(1);
        Check.fine(x, "from today on", x.burst(), 99);
        for (int i = 0; i < 10; i++) {
            x.pass(9);
        }
        x.pass(3);
        Check.fine(x, "many(4)", x.many(4), 99);
        Check.fine(x, "on DAY 99", x.burst(), 99);
        PaperBread y = Check.of("person a;person b;loaf l by a on 0 slices 1 flour 0;promise 1 of l from a to b;");
        Check.fine(y, "on DAY 0", y.burst(), 0);
    }

    @Sentence(in = "==== 3.", says = "of which others than its BAKER HOLD any.")
    private static void t3_burstOthersHoldAny() {
        PaperBread x = Check.of(PAPERS);
        x.letGo(2);
        Check.fine(x, "of m nobody else HOLDS any", x.burst(), 5);
        x.make(1, 2, 1, 0, 0);
        Check.fine(x, "of m b OWES", x.burst(), 5);
        x.make(2, 2, 0, 1, 0);
        Check.fine(x, "of m b HOLDS 1", x.burst(), 3);
    }

    // ---- Terms: the TRUE LOAF

    private static void cutAtOnce(int n, int m, int t, int s) {
        String call = "cuts(" + n + ", " + m + ", " + t + ", " + s + ", ";
        PaperBread x = new PaperBread();
        Check.fine(x, call + "0)", x.cuts(n, m, t, s, 0), 0);
        Check.fine(x, call + "1)", x.cuts(n, m, t, s, 1), 0);
    }

    private static void cutByNobody(int n, int m, int t, int s) {
        String call = "cuts(" + n + ", " + m + ", " + t + ", " + s + ", ";
        Edges.refused(call + "0)", x -> x.cuts(n, m, t, s, 0), 8);
        Edges.refused(call + "1)", x -> x.cuts(n, m, t, s, 1), 8);
    }

    @Sentence(in = "==== 3.", says = "A TRUE LOAF of n SLICES goes round m persons from the first on, at most t turns:")
    private static void t3_trueLoafFromTheFirstOn() {
        cutAtOnce(60, 2, 1, 0);
        cutAtOnce(60, 8, 40, 0);
        cutAtOnce(1, 2, 1, 0);
    }

    @Sentence(in = "==== 3.", says = "who has it may CUT it (has what is left, less a shame of s: below 0, too; others 0) or hand it on: mice eat 1 then.")
    private static void t3_trueLoafLessAShame() {
        cutAtOnce(6, 2, 5, 5);
        cutByNobody(5, 2, 5, 6);
        cutByNobody(1, 2, 40, 60);
    }

    @Sentence(in = "==== 3.", says = "Each would rather have more; if handing on and cutting are alike, it CUTS; whom nothing comes to has 0.")
    private static void t3_trueLoafAlikeItCuts() {
        cutAtOnce(5, 3, 40, 5);
        cutAtOnce(60, 8, 1, 60);
        cutAtOnce(1, 2, 1, 1);
        cutByNobody(59, 8, 1, 60);
    }

    @Sentence(in = "==== 3.", says = "Behind t turns, or when nothing is left, it is gone.")
    private static void t3_trueLoafIsGone() {
        cutByNobody(4, 2, 1, 5);
        cutByNobody(4, 2, 3, 5);
        cutByNobody(4, 2, 4, 5);
        cutByNobody(4, 2, 5, 5);
        cutByNobody(1, 2, 40, 2);
    }

    /** To whom a LOAF comes back there is less of it, so nobody waits: CUT at once, or by nobody. */
    @Sentence(in = "==== 3.", says = "Who CUTS at last, in which turn, if all think to the end.")
    private static void t3_trueLoafThoughtToTheEnd() {
        for (int n = 1; n <= 60; n++) {
            PaperBread x = new PaperBread();
            for (int s = 0; s <= 60; s++) {
                int m = 2 + (n + s) % 7;
                int t = 1 + (n * 7 + s) % 40;
                String call = "cuts(" + n + ", " + m + ", " + t + ", " + s + ", ";
                for (int what = 0; what < 2; what++) {
                    int answer = x.cuts(n, m, t, s, what);
                    Check.due(call + what + ")", answer, n >= s ? 0 : -1);
                    Check.due(call + what + "): status()", x.status(), n >= s ? 0 : 8);
                }
            }
        }
    }

    // ---- Terms: AUCTION

    private static PaperBread bids(long... numbers) {
        PaperBread x = new PaperBread();
        x.tray(1, 3, numbers.length);
        for (int i = 0; i < numbers.length; i++) {
            x.write(1, i, numbers[i]);
        }
        return x;
    }

    private static void sold(String call, PaperBread x, int many, int winner, int price) {
        Check.fine(x, call + ": who wins", x.auction(1, many, 0), winner);
        Check.fine(x, call + ": what it pays", x.auction(1, many, 1), price);
    }

    @Sentence(in = "==== 3.", says = "AUCTION: a TRAY has what persons 0, 1 .. bid (0: none):")
    private static void t3_auctionBid0IsNone() {
        sold("the others bid none", bids(0, 0, 4), 3, 2, 0);
        sold("the first bids none", bids(0, 1), 2, 1, 0);
    }

    @Sentence(in = "==== 3.", says = "the most wins (of several the first),")
    private static void t3_auctionOfSeveralTheFirst() {
        sold("the most", bids(3, 9, 8), 3, 1, 8);
        sold("of several the first", bids(3, 9, 9, 9), 4, 1, 9);
        sold("all alike", bids(1, 1, 1, 1, 1, 1, 1, 1), 8, 0, 1);
        sold("the last", bids(1, 2, 3, 4, 5, 6, 7, 8), 8, 7, 7);
    }

    @Sentence(in = "==== 3.", says = "and pays what the next one bid (0 without).")
    private static void t3_auctionPaysTheNext() {
        sold("the next stands behind", bids(9, 3, 5), 3, 0, 5);
        sold("the next stands ahead", bids(5, 3, 9), 3, 2, 5);
        sold("one alone", bids(9), 1, 0, 0);
        sold("one alone of the first", bids(9, 8), 1, 0, 0);
    }

    // ---- Promises 32 and 33

    @Sentence(in = "Promise 32", says = "SAVED for a person, so many SLICES (1 to 999), what 0: FLOUR, 1: the set")
    private static void p32_slices1To999() {
        PaperBread x = Edges.rich();
        Check.fine(x, "saved(0, 1, 0)", x.saved(0, 1, 0), 30);
        Check.fine(x, "saved(0, 1, 1)", x.saved(0, 1, 1), 1);
        for (int slices : new int[] {0, -1, 1000, MIN, MAX}) {
            Edges.refused("saved(0, " + slices + ", 0)", y -> y.saved(0, slices, 0), 5);
        }
        Edges.refused("saved(0, 999, 0) may be asked", y -> y.saved(0, 999, 0), 9);
    }

    @Sentence(in = "Promise 32", says = "(2; 5;")
    private static void p32_2And5() {
        for (int p : NO_PERSONS) {
            Edges.refused("saved(" + p + ", 1, 0)", x -> x.saved(p, 1, 0), 2);
            Edges.refused("2 ahead of 5", x -> x.saved(p, 0, 2), 2);
        }
        for (int what : new int[] {-1, 2, MIN, MAX}) {
            Edges.refused("saved(0, 1, " + what + ")", x -> x.saved(0, 1, what), 5);
            Edges.refused("5 ahead of 9", x -> x.saved(0, 999, what), 5);
        }
    }

    @Sentence(in = "Promise 32", says = "9: not by all).")
    private static void p32_9() {
        // Of rye, the one LOAF left, ann GETS 7, cid 4, bob, who OWES, none.
        PaperBread x = Edges.rich();
        Check.fine(x, "saved(0, 7, 0)", x.saved(0, 7, 0), 30);
        Edges.refused("saved(0, 8, 0)", y -> y.saved(0, 8, 0), 9);
        Edges.refused("saved(0, 8, 1)", y -> y.saved(0, 8, 1), 9);
        Edges.refused("saved(1, 1, 0)", y -> y.saved(1, 1, 0), 9);
        Check.fine(x, "saved(2, 4, 1)", x.saved(2, 4, 1), 1);
        Edges.refused("saved(2, 5, 1)", y -> y.saved(2, 5, 1), 9);
        PaperBread y = Edges.of(SIX, z -> z.bake(5)).get();
        Check.fine(y, "by all: saved(0, 9, 1)", y.saved(0, 9, 1), 27);
        Check.none(y, "not by all: saved(0, 10, 1)", y.saved(0, 10, 1), 9);
    }

    @Sentence(in = "Promise 33", says = "FACES: FLOUR (9: a BAKER of one of these LOAVES would lose FACE all the same).")
    private static void p33_9() {
        Edges.refused("cid lacks 2 of rye", PaperBread::faces, 9);
        PaperBread x = Check.of(SIX);
        x.make(3, 3, 0, 1, 0);
        Check.fine(x, "all of fig is promised", x.faces(), 10);
        Edges.refused("one more is", Edges.of(SIX, y -> y.make(4, 3, 0, 1, 0)), PaperBread::faces, 9);
        Edges.refused("bob, who has none, promised one", Edges.of(SIX, y -> y.make(1, 3, 1, 2, 0)),
                PaperBread::faces, 9);
        PaperBread own = Edges.of(SIX, y -> y.make(9, 3, 1, 0, 0)).get();
        Check.fine(own, "bob OWES to the BAKER, whom no FACE is lost by", own.faces(), 0);
        PaperBread paper = Edges.of(SIX, y -> y.make(99, 2, 1, 2, 0)).get();
        Check.fine(paper, "of PAPER: it is none of these", paper.faces(), 0);
        PaperBread baked = Edges.of(SIX, y -> y.make(99, 5, 0, 1, 0)).get();
        Check.none(baked, "too much of bun", baked.faces(), 9);
        baked.bake(5);
        Check.fine(baked, "it is BAKED now", baked.faces(), 0);
    }

    // ---- Promises 34 and 35

    @Sentence(in = "Promise 34", says = "KEEPS by the first so many (1 to 60) numbers of a TRAY")
    private static void p34_many1To60() {
        keepsAlways(asked(0, 52).get(), "the first alone", 1);
        PaperBread x = asked(new long[60]).get();
        keepsAlways(x, "sixty", 60);
        x.write(0, 59, 999);
        Check.fine(x, "the sixtieth, too", x.keeps(0, 0, 60), 59);
        keepsAlways(x, "but not for fifty-nine", 59);
        for (int many : new int[] {0, -1, MIN}) {
            Edges.refused("keeps(0, 0, " + many + ")", y -> y.keeps(0, 0, many), 5);
        }
        Edges.refused("keeps(0, 0, 61): too few numbers", asked(new long[60]), y -> y.keeps(0, 0, 61), 4);
    }

    @Sentence(in = "Promise 34", says = "(0 to 999 each):")
    private static void p34_numbers0To999() {
        PaperBread x = asked(999, 0).get();
        Check.fine(x, "999 may be asked", x.keeps(0, 0, 2), 0);
        Edges.refused("1000 may not", asked(0, 1000), y -> y.keeps(0, 0, 2), 5);
        Edges.refused("-1 may not", asked(0, -1), y -> y.keeps(0, 0, 2), 5);
        Edges.refused("the first may not", asked(-1, 0), y -> y.keeps(0, 0, 2), 5);
        Edges.refused("5, though DAY 0 can't be kept", asked(99, 1000), y -> y.keeps(0, 0, 2), 5);
        keepsAlways(asked(0, 1000).get(), "one behind the first so many may be any", 1);
        PaperBread big = new PaperBread();
        Check.town(big, SIX);
        big.tray(0, 3, 1);
        big.write(0, 0, 1L << 32);
        Check.none(big, "of 64 bits, 0 in its lower half", big.keeps(0, 0, 1), 5);
    }

    @Sentence(in = "Promise 34", says = "the DAY (1; 2; 3; 4; 5;")
    private static void p34_refusals() {
        for (int tray : NO_TRAYS) {
            Edges.refused("keeps(0, " + tray + ", 1)", x -> x.keeps(0, tray, 1), 1);
        }
        for (int p : NO_PERSONS) {
            Edges.refused("keeps(" + p + ", 0, 1)", x -> x.keeps(p, 0, 1), 2);
        }
        Edges.refused("keeps(0, 3, 1)", x -> x.keeps(0, 3, 1), 3);
        Edges.refused("keeps(0, 0, 6)", x -> x.keeps(0, 0, 6), 4);
        Edges.refused("keeps(0, 0, max)", x -> x.keeps(0, 0, MAX), 4);
        Edges.refused("a TRAY of none: keeps(0, 2, 1)", x -> x.keeps(0, 2, 1), 4);
        Edges.refused("keeps(0, 0, 5): -1 is its last", x -> x.keeps(0, 0, 5), 5);
    }

    @Sentence(in = "Promise 34", says = "8: it can always;")
    private static void p34_8() {
        Edges.refused("all it GETS", asked(50, 1, 2, 6), x -> x.keeps(0, 0, 4), 8);
        Edges.refused("nothing is asked of one who GETS nothing", asked(0, 0), x -> x.keeps(1, 0, 2), 8);
        PaperBread x = asked(0, 1).get();
        Check.fine(x, "one is", x.keeps(1, 0, 2), 1);
    }

    @Sentence(in = "Promise 34", says = "asked in this order).")
    private static void p34_inThisOrder() {
        Edges.refused("1 ahead of 2", x -> x.keeps(-1, -1, 1), 1);
        Edges.refused("1 ahead of 5", x -> x.keeps(0, 4, 0), 1);
        Edges.refused("2 ahead of 3", x -> x.keeps(3, 3, 1), 2);
        Edges.refused("2 ahead of 4", x -> x.keeps(3, 0, 6), 2);
        Edges.refused("2 ahead of 5", x -> x.keeps(3, 0, 0), 2);
        Edges.refused("3 ahead of 4", x -> x.keeps(0, 3, 61), 3);
        Edges.refused("3 ahead of 5", x -> x.keeps(0, 3, 0), 3);
        Edges.refused("4 ahead of 5", x -> x.keeps(0, 0, 61), 4);
    }

    @Sentence(in = "Promise 35", says = "BURST: the DAY (8: none).")
    private static void p35_8() {
        Edges.refused("of nobody", PaperBread::new, PaperBread::burst, 8);
        PaperBread x = Edges.rich();
        Check.fine(x, "bob HOLDS of ink", x.burst(), 3);
        Edges.refused("that was let go", Edges.rich(y -> y.letGo(3)), PaperBread::burst, 8);
        Edges.refused("its DAY is gone by", Edges.rich(y -> y.pass(3)), PaperBread::burst, 8);
    }

    // ---- Promises 36 and 37

    private static void numbers(String name, int least, int most, int place) {
        int[] good = {5, 3, 5, 2, 0};
        for (int v : new int[] {least - 1, most + 1, -1, MIN, MAX}) {
            int[] a = good.clone();
            a[place] = v;
            Edges.refused("cuts() with " + name + " " + v, x -> x.cuts(a[0], a[1], a[2], a[3], a[4]), 5);
        }
        for (int v : new int[] {least, most}) {
            int[] a = good.clone();
            a[place] = v;
            PaperBread x = new PaperBread();
            x.cuts(a[0], a[1], a[2], a[3], a[4]);
            Check.due("cuts() with " + name + " " + v + " is no 5", x.status() == 5, false);
        }
    }

    @Sentence(in = "Promise 36", says = "Who CUTS the TRUE LOAF (n 1 to 60,")
    private static void p36_n1To60() {
        numbers("n", 1, 60, 0);
    }

    @Sentence(in = "Promise 36", says = "m 2 to 8,")
    private static void p36_m2To8() {
        numbers("m", 2, 8, 1);
    }

    @Sentence(in = "Promise 36", says = "t 1 to 40,")
    private static void p36_t1To40() {
        numbers("t", 1, 40, 2);
    }

    @Sentence(in = "Promise 36", says = "s 0 to 60),")
    private static void p36_s0To60() {
        numbers("s", 0, 60, 3);
    }

    @Sentence(in = "Promise 36", says = "what 0: the person, 1: the turn (from 0 on)")
    private static void p36_what0Or1() {
        numbers("what", 0, 1, 4);
        cutAtOnce(5, 3, 5, 2);
    }

    @Sentence(in = "Promise 36", says = "(5; 8: nobody does).")
    private static void p36_8() {
        cutByNobody(1, 2, 1, 2);
        Edges.refused("5 ahead of 8", x -> x.cuts(1, 2, 1, 2, 2), 5);
        Edges.refused("5 ahead of 8", x -> x.cuts(1, 9, 1, 2, 0), 5);
    }

    private static Supplier<PaperBread> bidding(long... numbers) {
        return Edges.rich(x -> {
            x.tray(1, 3, numbers.length);
            for (int i = 0; i < numbers.length; i++) {
                x.write(1, i, numbers[i]);
            }
        });
    }

    @Sentence(in = "Promise 37", says = "AUCTION among the first so many (1 to 8) numbers of a TRAY, what 0: who wins, 1: what it pays")
    private static void p37_many1To8() {
        long[] nine = {1, 2, 3, 4, 5, 6, 7, 8, 9};
        sold("eight", bids(nine), 8, 7, 7);
        sold("one", bids(nine), 1, 0, 0);
        for (int many : new int[] {0, -1, 9, MIN}) {
            Edges.refused("auction(1, " + many + ", 0)", bidding(nine), x -> x.auction(1, many, 0), 5);
        }
        for (int what : new int[] {-1, 2, MIN, MAX}) {
            Edges.refused("auction(1, 8, " + what + ")", bidding(nine), x -> x.auction(1, 8, what), 5);
        }
    }

    @Sentence(in = "Promise 37", says = "(1; 3; 4;")
    private static void p37_1And3And4() {
        for (int tray : NO_TRAYS) {
            Edges.refused("auction(" + tray + ", 1, 0)", x -> x.auction(tray, 1, 0), 1);
        }
        Edges.refused("auction(3, 1, 0)", x -> x.auction(3, 1, 0), 3);
        Edges.refused("auction(0, 6, 0)", x -> x.auction(0, 6, 0), 4);
        Edges.refused("auction(0, max, 0)", x -> x.auction(0, MAX, 0), 4);
        Edges.refused("a TRAY of none: auction(2, 1, 0)", x -> x.auction(2, 1, 0), 4);
    }

    @Sentence(in = "Promise 37", says = "5: also a number not 0 to 9,999;")
    private static void p37_5ANumberNot0To9999() {
        sold("9,999 may be bid", bids(9999, 9998), 2, 0, 9998);
        Edges.refused("10,000 may not", bidding(1, 10000), x -> x.auction(1, 2, 0), 5);
        Edges.refused("-1 may not", bidding(-1, 1), x -> x.auction(1, 2, 0), 5);
        Edges.refused("nor may it be what is paid", bidding(-1, 1), x -> x.auction(1, 2, 1), 5);
        Edges.refused("of 64 bits, 1 in its lower half", bidding((1L << 32) + 1), x -> x.auction(1, 1, 0), 5);
        sold("one behind the first so many may be any", bids(5, 10000, -1), 1, 0, 0);
    }

    @Sentence(in = "Promise 37", says = "8: nobody bids;")
    private static void p37_8NobodyBids() {
        Edges.refused("auction(1, 3, 0)", bidding(0, 0, 0, 7), x -> x.auction(1, 3, 0), 8);
        Edges.refused("auction(1, 1, 1)", bidding(0), x -> x.auction(1, 1, 1), 8);
        sold("one does", bids(0, 0, 0, 7), 4, 3, 0);
    }

    @Sentence(in = "Promise 37", says = "in this order).")
    private static void p37_inThisOrder() {
        Edges.refused("1 ahead of 5", x -> x.auction(4, 0, 2), 1);
        Edges.refused("3 ahead of 4 and 5", x -> x.auction(3, 9, 2), 3);
        Edges.refused("4 ahead of 5 for so many", x -> x.auction(0, 9, 0), 4);
        Edges.refused("4 ahead of 5 for what", x -> x.auction(0, 6, 2), 4);
        Edges.refused("5 ahead of 8 for so many", bidding(0, 0), x -> x.auction(1, 0, 0), 5);
        Edges.refused("5 ahead of 8 for what", bidding(0, 0), x -> x.auction(1, 2, 2), 5);
        Edges.refused("5 ahead of 8 for a number", bidding(0, -1), x -> x.auction(1, 2, 0), 5);
    }

    public static void main(String[] args) {
        Edges.run(EdgesFlourTest.class);
    }
}
