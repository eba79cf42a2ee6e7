import java.util.function.Supplier;

/** The sentences of promises 17 to 31, of what is HELD, of NETS and of RINGS, one test each. */
public final class EdgesHeldTest {
    private static final int MIN = Edges.MIN;
    private static final int MAX = Edges.MAX;
    private static final int[] NO_PERSONS = {-1, 3, 8, MIN, MAX};
    private static final int[] NO_LOAVES = {-1, 4, 8, MIN, MAX};
    private static final String FOUR = "person a;person b;person c;person d;oven o;"
            + "loaf l by a in o on 1 slices 10 flour 0;loaf m by b in o on 1 slices 10 flour 0;";
    private static final String EIGHT = "person a;person b;person c;person d;person e;person f;person g;person h;"
            + "loaf l by a on 0 slices 9 flour 0;loaf m by b on 0 slices 9 flour 0;";

    /** PROMISES of one SLICE each, as "ab" for from a to b, "ab2" for two SLICES, of the LOAF l. */
    private static String handed(String... rows) {
        StringBuilder text = new StringBuilder();
        for (String row : rows) {
            text.append("promise ").append(row.length() > 2 ? row.substring(2) : "1").append(" of l from ")
                    .append(row.charAt(0)).append(" to ").append(row.charAt(1)).append(";");
        }
        return text.toString();
    }

    private static PaperBread four(String... rows) {
        return Check.of(FOUR + handed(rows));
    }

    private static PaperBread eight(String... rows) {
        return Check.of(EIGHT + handed(rows));
    }

    // ---- as much as there may be

    /** Eight persons, four OVENS, eight LOAVES, each of its own BAKER, forty PROMISES round. */
    private static PaperBread full() {
        StringBuilder text = new StringBuilder();
        for (char c = 'a'; c <= 'h'; c++) {
            text.append("person ").append(c).append(";");
        }
        text.append("oven w;oven x;oven y;oven z rain 16;");
        for (char c = 'a'; c <= 'h'; c++) {
            text.append("loaf l").append(c).append(" by ").append(c).append(c == 'd' ? "" : " in z")
                    .append(" on 1 slices 9 flour 9;");
        }
        PaperBread x = Check.of(text.toString());
        for (int i = 0; i < 40; i++) {
            Check.fine(x, "make " + i, x.make(1 + i / 8, i % 8, i % 8, (i + 1) % 8, i), i);
        }
        return x;
    }

    /** Each HOLDS -6 of its own LOAF (9 less 15) and 15 of the one ahead. */
    @Sentence(in = "==== 1.", says = "PEOPLE, at most 8")
    private static void t1_eightPersonsAnswer() {
        PaperBread x = full();
        for (int p = 0; p < 8; p++) {
            int ahead = (p + 7) % 8;
            Check.fine(x, "holds(" + p + ", " + p + ")", x.holds(p, p), -6);
            Check.fine(x, "holds(" + p + ", " + ahead + ")", x.holds(p, ahead), 15);
            Check.fine(x, "net(" + p + ")", x.net(p), 0);
            Check.fine(x, "between", x.between(ahead, p), 15);
            Check.fine(x, "first", x.first(p, ahead, ahead), ahead);
        }
        Check.fine(x, "handOvers()", x.handOvers(), 0);
        Check.fine(x, "ring()", x.ring(), 8);
        Check.fine(x, "ringAt(7)", x.ringAt(7), 7);
        x.pass(1);
        Check.fine(x, "bake(6): the eighth GETS 9", x.bake(6), 9);
        Check.fine(x, "person(7, 1)", x.person(7, 1), 9);
        Check.fine(x, "person(6, 2): it OWES 6, 6 are lacking", x.person(6, 2), 12);
        Check.fine(x, "eat(7, 99)", x.eat(7, 99), 9);
    }

    @Sentence(in = "==== 1.", says = "LOAVES, at most 8")
    private static void t1_eightLoavesAnswer() {
        PaperBread x = full();
        for (int l = 0; l < 8; l++) {
            Check.fine(x, "deep(" + l + ")", x.deep(l), 1);
            Check.fine(x, "owing(" + l + ")", x.owing(l), 1 << l);
            Check.fine(x, "line(" + l + ", 0)", x.line(l, 0), (l + 1) % 8);
            Check.none(x, "line(" + l + ", 1)", x.line(l, 1), 8);
            Check.fine(x, "shame(" + l + ", false)", x.shame(l, false), l == 3 ? 6 + 15 : 6 + 6);
        }
        Check.fine(x, "gets(0, 7, true)", x.gets(0, 7, true), 4);
        Check.fine(x, "saved(0, 9, 1)", x.saved(0, 9, 1), 128);
        Check.none(x, "faces()", x.faces(), 9);
        Check.fine(x, "burst()", x.burst(), 1);
        x.tray(0, 0, 2);
        x.write(0, 1, 9);
        Check.none(x, "keeps(0, 0, 2)", x.keeps(0, 0, 2), 8);
        Check.fine(x, "keeps(4, 0, 2): ld is of PAPER", x.keeps(4, 0, 2), 1);
        Check.fine(x, "days", Check.days(x, "wait 1;bake lh;when wet z;eat a 4;end;"), 4);
        Check.fraction(x, "odds(0, 1, 0, 20): eaten", x.odds(0, 1, 0, 20), 0, 1);
        Check.fine(x, "live(0)", x.live(0), 4);
        Check.fine(x, "lived(0)", x.lived(0), 0);
        Check.fine(x, "many(5)", x.many(5), 128);
        Check.fine(x, "many(6)", x.many(6), 8);
    }

    /** PROMISE 39 goes from the eighth person to the first; each of a LOAF from its BAKER: 1 deep. */
    @Sentence(in = "==== 4.", says = "if there are fewer than 40")
    private static void t4_fortyPromisesAnswer() {
        PaperBread x = full();
        for (int p = 0; p < 40; p++) {
            Check.fine(x, "depth(" + p + ")", x.depth(p), 1);
        }
        int[] due = {5, 7, 7, 0, 39, 0};
        for (int what = 0; what < 6; what++) {
            Check.fine(x, "promise(39, " + what + ")", x.promise(39, what), due[what]);
        }
        Check.fine(x, "letGo(39)", x.letGo(39));
        Check.fine(x, "holds(0, 7)", x.holds(0, 7), 10);
        x.mark();
        Check.fine(x, "letGo(38)", x.letGo(38));
        x.back();
        Check.fine(x, "promise(38, 5)", x.promise(38, 5), 0);
        Check.fine(x, "promise(39, 5)", x.promise(39, 5), 1);
        Check.none(x, "depth(40)", x.depth(40), 2);
        // Forty of one LOAF to and fro are a row of forty.
        PaperBread y = Check.of("person a;person b;loaf l by a on 1 slices 9 flour 0;");
        for (int i = 0; i < 40; i++) {
            y.make(1, 0, i % 2, 1 - i % 2, 0);
        }
        Check.fine(y, "deep(0)", y.deep(0), 40);
        Check.fine(y, "depth(39)", y.depth(39), 40);
    }

    // ---- Terms: HOLDS

    @Sentence(in = "==== 2.", says = "A PROMISE made hands its SLICES on, whether the giver has them or not,")
    private static void t2_whetherTheGiverHasThemOrNot() {
        PaperBread x = four("bc9", "ad11", "ad99");
        int[] due = {-100, -9, 9, 110};
        for (int p = 0; p < 4; p++) {
            Check.fine(x, "holds(" + p + ", 0)", x.holds(p, 0), due[p]);
        }
    }

    @Sentence(in = "==== 2.", says = "and its price from the receiver's PURSE to the giver's (below 0, too).")
    private static void t2_purseBelow0() {
        PaperBread x = Check.of("person a purse 3;person b purse 4;loaf l by a on 1 slices 1 flour 0;"
                + "promise 1 of l from a to b for 5;");
        Check.fine(x, "person(0, 0)", x.person(0, 0), 8);
        Check.fine(x, "person(1, 0)", x.person(1, 0), -1);
        Check.fine(x, "make", x.make(1, 0, 0, 1, 999), 1);
        Check.fine(x, "person(1, 0)", x.person(1, 0), -1000);
        Check.fine(x, "person(0, 0)", x.person(0, 0), 1007);
    }

    @Sentence(in = "==== 2.", says = "HOLDS of a person of a LOAF: its SLICES if it is its BAKER, and all that were promised to it of it, "
            + "less all that it promised: below 0 it OWES.")
    private static void t2_below0ItOwes() {
        PaperBread x = four("ab4", "bc4", "bd1", "ca2");
        int[] due = {8, -1, 2, 1};
        for (int p = 0; p < 4; p++) {
            Check.fine(x, "holds(" + p + ", 0)", x.holds(p, 0), due[p]);
        }
        Check.fine(x, "owing(0): b alone", x.owing(0), 2);
        x.letGo(2);
        Check.fine(x, "holds(1, 0): it HOLDS 0", x.holds(1, 0), 0);
        Check.fine(x, "owing(0): at 0 it does not OWE", x.owing(0), 0);
        Check.fine(x, "another LOAF", x.holds(1, 1), 10);
    }

    // ---- Terms: DEEP, FIRST

    @Sentence(in = "==== 2.", says = "DEEP is a LOAF by the longest row of PROMISES of it, each from the one to whom the one ahead went,")
    private static void t2_deepByTheLongestRow() {
        Check.due("a row of 3 beside one of 1", four("ab", "bc", "ad", "cd").deep(0), 3);
        PaperBread x = Check.of(FOUR + "promise 1 of l from a to b;promise 1 of m from b to c;");
        Check.fine(x, "PROMISES of it alone: deep(0)", x.deep(0), 1);
        Check.fine(x, "PROMISES of it alone: deep(1)", x.deep(1), 1);
        Check.due("each from the one to whom the one ahead went", four("ab", "cd").deep(0), 1);
    }

    @Sentence(in = "==== 2.", says = "each made later than that one,")
    private static void t2_deepEachMadeLater() {
        Check.due("made earlier", four("bc", "ab").deep(0), 1);
        Check.due("made later", four("ab", "bc").deep(0), 2);
        Check.due("round and round", four("ab", "ba", "ab", "ba", "ab").deep(0), 5);
        Check.due("round the wrong way", four("cd", "bc", "ab").deep(0), 1);
    }

    @Sentence(in = "==== 2.", says = "the first from its BAKER (0 without).")
    private static void t2_deepFirstFromItsBaker() {
        Check.due("no PROMISES at all", four().deep(0), 0);
        Check.due("none from its BAKER", four("bc", "cd", "da").deep(0), 0);
        Check.due("then one from it", four("bc", "cd", "da", "ab").deep(0), 1);
        PaperBread x = four("ab");
        x.letGo(0);
        Check.fine(x, "let go: as if not made", x.deep(0), 0);
    }

    @Sentence(in = "==== 2.", says = "FIRST of two persons: whose first PROMISE (to it) of a LOAF was made earlier: its BAKER ahead of all.")
    private static void t2_bakerAheadOfAll() {
        PaperBread x = four("bc", "cb", "ba", "bc");
        Check.fine(x, "the BAKER, whose PROMISE is later", x.first(2, 0, 0), 0);
        Check.fine(x, "the BAKER of it, the other way", x.first(0, 2, 0), 0);
        Check.fine(x, "c ahead of b", x.first(1, 2, 0), 2);
        Check.fine(x, "the BAKER, and one who had none", x.first(3, 0, 0), 0);
        Check.fine(x, "one who had one, and one who had none", x.first(3, 1, 0), 1);
    }

    // ---- Terms: BAKED, GETS, FACE

    @Sentence(in = "==== 2.", says = "A LOAF is BAKED on its DAY, if it is not of PAPER:")
    private static void t2_bakedOnItsDay() {
        String town = "person ann;oven hot;loaf rye by ann in hot on 2 slices 9 flour 0;loaf ink by ann on 2 slices 9 flour 0;";
        Edges.refused("a DAY ahead", Edges.of(town, x -> x.pass(1)), x -> x.bake(0), 9);
        Edges.refused("a DAY behind", Edges.of(town, x -> x.pass(3)), x -> x.bake(0), 9);
        Edges.refused("of PAPER", Edges.of(town, x -> x.pass(2)), x -> x.bake(1), 9);
        PaperBread x = Edges.of(town, y -> y.pass(2)).get();
        Check.fine(x, "on its DAY", x.bake(0), 9);
        PaperBread last = Check.of("person a;oven o;loaf l by a in o on 99 slices 9 flour 0;");
        for (int i = 0; i < 11; i++) {
            last.pass(9);
        }
        Check.fine(last, "on DAY 99", last.bake(0), 9);
        PaperBread first = Check.of("person a;oven o;loaf l by a in o on 0 slices 9 flour 0;");
        Check.fine(first, "on DAY 0", first.bake(0), 9);
    }

    @Sentence(in = "==== 2.", says = "all its SLICES, or, if it RAINS on its OVEN then, half of them, rounded down.")
    private static void t2_halfOfThemRoundedDown() {
        int[][] due = {{1, 0}, {2, 1}, {3, 1}, {98, 49}, {99, 49}};
        for (int[] row : due) {
            String town = "person a;oven o rain 16;loaf l by a in o on 1 slices " + row[0] + " flour 0;";
            PaperBread x = Check.of(town, "wait 1;");
            x.live(0);
            Check.fine(x, "it RAINS on " + row[0], x.bake(0), row[1]);
            Check.fine(x, "its own", x.person(0, 1), row[1]);
            PaperBread y = Check.of(town);
            y.pass(1);
            Check.fine(y, "it does not RAIN on " + row[0], y.bake(0), row[0]);
        }
    }

    @Sentence(in = "==== 2.", says = "GETS: the SLICES that are there go to those who HOLD some, one after another as they are FIRST, as many as each HOLDS;")
    private static void t2_oneAfterAnother() {
        // a HOLDS 3, d 4, b 3 and c, who OWES nothing, none: d is FIRST ahead of b.
        PaperBread x = four("ad4", "ab3");
        int[] dry = {3, 3, 0, 4};
        int[] wet = {3, 0, 0, 2};
        for (int p = 0; p < 4; p++) {
            Check.fine(x, "gets(" + p + ", 0, false)", x.gets(p, 0, false), dry[p]);
            Check.fine(x, "gets(" + p + ", 0, true)", x.gets(p, 0, true), wet[p]);
        }
    }

    /** By what is HELD there is never more than is HELD: all that comes goes to somebody. */
    @Sentence(in = "==== 2.", says = "what is left over goes to nobody.")
    private static void t2_nothingIsLeftOver() {
        String[][] rows = {{}, {"ab10"}, {"ba5"}, {"bc9"}, {"ab4", "bc9", "cd99"}};
        for (String[] row : rows) {
            PaperBread x = four(row);
            int dry = 0;
            int wet = 0;
            for (int p = 0; p < 4; p++) {
                dry += x.gets(p, 0, false);
                wet += x.gets(p, 0, true);
            }
            Check.due("all come to somebody", dry, 10);
            Check.due("all come to somebody, wet", wet, 5);
            Check.none(x, "the SLICE behind the last", x.whose(0, 10, false), 8);
        }
    }

    @Sentence(in = "==== 2.", says = "FACE is lost then by a person for each SLICE that it OWES,")
    private static void t2_faceForEachSliceOwed() {
        PaperBread x = four("ba7");
        Check.fine(x, "shame: b OWES 7, nobody else HOLDS", x.shame(0, false), 7);
        x.pass(1);
        x.bake(0);
        int[] face = {0, 7, 0, 0};
        for (int p = 0; p < 4; p++) {
            Check.fine(x, "person(" + p + ", 2)", x.person(p, 2), face[p]);
        }
    }

    @Sentence(in = "==== 2.", says = "and by the BAKER, too, for each SLICE that others HOLD and do not GET")
    private static void t2_faceByTheBakerToo() {
        PaperBread x = four("ab12", "bc3");
        // a OWES 2; b HOLDS 9, c 3: b GETS 9, c 1.
        x.pass(1);
        x.bake(0);
        int[] face = {2 + 2, 0, 0, 0};
        int[] own = {0, 9, 1, 0};
        for (int p = 0; p < 4; p++) {
            Check.fine(x, "person(" + p + ", 1)", x.person(p, 1), own[p]);
            Check.fine(x, "person(" + p + ", 2)", x.person(p, 2), face[p]);
        }
        PaperBread y = four("ab10");
        y.pass(1);
        y.bake(0);
        Check.fine(y, "all that others HOLD they GET", y.person(0, 2), 0);
        // Wet the BAKER does not GET 3 of its own 8: that is no FACE. b does not GET its 2.
        PaperBread z = four("ab2");
        Check.fine(z, "what the BAKER does not GET is no FACE", z.shame(0, true), 2);
    }

    @Sentence(in = "==== 2.", says = "(of PAPER none comes).")
    private static void t2_ofPaperNoneComes() {
        String town = "person a;person b;person c;loaf l by a on 1 slices 10 flour 0;";
        Check.due("nobody else HOLDS any", Check.of(town).shame(0, false), 0);
        PaperBread x = Check.of(town + handed("ab4", "cb1"));
        Check.fine(x, "5 that b HOLDS, 1 that c OWES", x.shame(0, false), 6);
        Check.fine(x, "wet or not", x.shame(0, true), 6);
    }

    // ---- Terms: LINE, WHOSE, OWN DEPTH, BETWEEN, ODDS

    @Sentence(in = "==== 2.", says = "LINE of a LOAF: those who HOLD some, as they are FIRST.")
    private static void t2_lineOfThoseWhoHoldSome() {
        PaperBread x = four("ad4", "ac2", "cb2");
        int[] due = {0, 3, 1};
        for (int k = 0; k < 3; k++) {
            Check.fine(x, "line(0, " + k + ")", x.line(0, k), due[k]);
        }
        Check.none(x, "c HOLDS 0", x.line(0, 3), 8);
        PaperBread y = four("ab10");
        Check.fine(y, "the BAKER HOLDS 0", y.line(0, 0), 1);
        Check.none(y, "line(0, 1)", y.line(0, 1), 8);
        PaperBread z = four("ab11");
        Check.fine(z, "the BAKER OWES", z.line(0, 0), 1);
        Check.none(z, "line(0, 1)", z.line(0, 1), 8);
    }

    @Sentence(in = "==== 2.", says = "WHOSE is the s-th SLICE (from 0 on), if the first ones go to the first of the LINE, and so on.")
    private static void t2_whoseFrom0On() {
        PaperBread x = four("ad4", "ab3");
        int[] due = {0, 0, 0, 3, 3, 3, 3, 1, 1, 1};
        for (int slice = 0; slice < 10; slice++) {
            Check.fine(x, "whose(0, " + slice + ", false)", x.whose(0, slice, false), due[slice]);
        }
        Check.none(x, "whose(0, 10, false)", x.whose(0, 10, false), 8);
        Check.fine(x, "whose(0, 4, true)", x.whose(0, 4, true), 3);
        Check.none(x, "whose(0, 5, true)", x.whose(0, 5, true), 8);
    }

    @Sentence(in = "==== 2.", says = "OWN DEPTH of a PROMISE: how many PROMISES of its LOAF, one handed on by the next, lead to it at most from the BAKER, it, too")
    private static void t2_ownDepthAtMost() {
        PaperBread x = four("ab", "bc", "ac", "cd", "ad");
        int[] due = {1, 2, 1, 3, 1};
        for (int p = 0; p < due.length; p++) {
            Check.fine(x, "depth(" + p + ")", x.depth(p), due[p]);
        }
        PaperBread y = Check.of(FOUR + "promise 1 of m from b to c;promise 1 of l from a to b;"
                + "promise 1 of l from b to c;promise 1 of m from c to d;");
        int[] own = {1, 1, 2, 2};
        for (int p = 0; p < own.length; p++) {
            Check.fine(y, "depth(" + p + ") of its LOAF alone", y.depth(p), own[p]);
        }
    }

    @Sentence(in = "==== 2.", says = "(0: none does, or it was let go).")
    private static void t2_ownDepth0() {
        PaperBread x = four("bc", "ab", "cd", "bd");
        int[] due = {0, 1, 0, 2};
        for (int p = 0; p < due.length; p++) {
            Check.fine(x, "depth(" + p + ")", x.depth(p), due[p]);
        }
        x.letGo(1);
        Check.fine(x, "let go", x.depth(1), 0);
        Check.fine(x, "behind one let go", x.depth(3), 0);
    }

    @Sentence(in = "==== 2.", says = "BETWEEN two persons: SLICES of all LOAVES that the first promised the second less those that the second promised the first.")
    private static void t2_betweenOfAllLoaves() {
        PaperBread x = Check.of(FOUR + "promise 5 of l from a to b;promise 7 of m from b to a;"
                + "promise 3 of m from a to b;promise 9 of l from a to c;");
        Check.fine(x, "between(0, 1)", x.between(0, 1), 1);
        Check.fine(x, "between(1, 0)", x.between(1, 0), -1);
        Check.fine(x, "between(1, 2): nothing", x.between(1, 2), 0);
        x.letGo(1);
        Check.fine(x, "one let go", x.between(0, 1), 8);
    }

    @Sentence(in = "==== 2.", says = "By ODDS: the mean of what a person GETS of a LOAF, by its OVEN's sixteenths;")
    private static void t2_meanBySixteenths() {
        int[][] due = {{0, 10, 1}, {1, 155, 16}, {8, 15, 2}, {15, 85, 16}, {16, 5, 1}};
        for (int[] row : due) {
            PaperBread x = Check.of("person a;oven p rain 9;oven o rain " + row[0]
                    + ";loaf l by a in o on 1 slices 10 flour 0;");
            Check.fraction(x, "rain " + row[0], x.mean(0, 0, 0), row[1], row[2]);
        }
    }

    @Sentence(in = "==== 2.", says = "WORTH of a SLICE of it for that person: this by what it HOLDS.")
    private static void t2_worthByWhatItHolds() {
        PaperBread x = Check.of("person a;person b;oven o rain 16;loaf l by a in o on 1 slices 10 flour 0;"
                + handed("ab6"));
        Check.fraction(x, "a GETS 4 of 4", x.mean(0, 0, 1), 1, 1);
        Check.fraction(x, "b GETS 1 of 6", x.mean(1, 0, 1), 1, 6);
        PaperBread y = Check.of("person a;person b;oven o rain 16;loaf l by a in o on 1 slices 10 flour 0;"
                + handed("ab5"));
        Check.fraction(y, "b GETS 0 of 5", y.mean(1, 0, 1), 0, 1);
    }

    // ---- Terms: NET, HAND-OVERS

    @Sentence(in = "==== 3.", says = "NET of a person: what it HOLDS of all LOAVES together, less their BAKERS' own SLICES.")
    private static void t3_netOfAllLoaves() {
        PaperBread x = Check.of(FOUR + "promise 5 of l from a to b;promise 7 of m from b to a;promise 1 of m from c to d;");
        int[] due = {2, -2, -1, 1};
        for (int p = 0; p < 4; p++) {
            Check.fine(x, "net(" + p + ")", x.net(p), due[p]);
        }
        x.pass(1);
        x.bake(0);
        Check.fine(x, "net(0) of one BAKED, too", x.net(0), 2);
    }

    @Sentence(in = "==== 3.", says = "All NETS together are 0.")
    private static void t3_allNetsAre0() {
        PaperBread x = Check.of(FOUR);
        for (int i = 0; i < 40; i++) {
            x.make(1 + i, i % 2, i % 4, (i + 1 + i % 3) % 4, i);
            int all = 0;
            for (int p = 0; p < 4; p++) {
                all += x.net(p);
            }
            Check.due("all NETS with " + i, all, 0);
        }
        Check.fine(x, "all were made", x.many(3), 40);
    }

    @Sentence(in = "==== 3.", says = "HAND-OVERS: SLICES go from those whose NET is above 0 to those below: the fewest by which all are 0 "
            + "(each from one person to another one).")
    private static void t3_fewestHandOvers() {
        Check.due("all are 0", eight().handOvers(), 0);
        Check.due("a ring of alike", eight("ab2", "bc2", "ca2").handOvers(), 0);
        Check.due("a pair", eight("ab3").handOvers(), 1);
        Check.due("one to seven", eight("ab", "ac", "ad", "ae", "af", "ag", "ah").handOvers(), 7);
        Check.due("four pairs", eight("ab1", "cd2", "ef3", "gh4").handOvers(), 4);
        // NETS a -3, b -2, c 4, d 1: no pair, nor three of them, is 0 together.
        Check.due("no group but all", eight("ac3", "bc1", "bd1").handOvers(), 3);
        // NETS a -3, b -5, c 2, d 1, e 5: a with c and d, b with e.
        Check.due("three and two", eight("ac2", "ad1", "be5").handOvers(), 3);
        // As above, though the PROMISES were made across: b to c, d; a to e.
        Check.due("made across", eight("bc2", "bd1", "be2", "ae3").handOvers(), 3);
        // NETS a -1, b -2, c -4, d -8, e 15: one for all.
        Check.due("one for all", eight("ae1", "be2", "ce4", "de8").handOvers(), 4);
    }

    // ---- Terms: RING

    private static void ring(PaperBread x, String call, int... due) {
        Check.fine(x, call + ": ring()", x.ring(), due.length);
        for (int k = 0; k < due.length; k++) {
            Check.fine(x, call + ": ringAt(" + k + ")", x.ringAt(k), due[k]);
        }
        Check.none(x, call + ": no more", x.ringAt(due.length), 8);
    }

    @Sentence(in = "==== 3.", says = "RING: a row of PROMISES of any LOAVES, each from the one to whom the one ahead went, the last to whom the first is from,")
    private static void t3_ringOfAnyLoaves() {
        ring(Check.of(FOUR + "promise 1 of l from a to b;promise 1 of m from b to a;"), "two LOAVES", 0, 1);
        ring(eight("ab", "bc", "cd", "de", "ef", "fg", "gh", "ha"), "all eight", 0, 1, 2, 3, 4, 5, 6, 7);
        ring(eight("ha", "gh", "fg", "ef", "de", "cd", "bc", "ab"), "made the other way", 0, 7, 6, 5, 4, 3, 2, 1);
        Edges.refused("not round", Edges.of(EIGHT + handed("ab", "bc", "ac", "ad", "bd"), x -> { }), PaperBread::ring, 8);
    }

    /** The row from a over b back to b is none; the RING of b and c is. */
    @Sentence(in = "==== 3.", says = "no person twice:")
    private static void t3_ringNoPersonTwice() {
        ring(four("ab", "bc", "cd", "db"), "a is not on it", 1, 2, 3);
        ring(four("ab", "bc", "cb", "ba"), "two that meet in b", 0, 3);
    }

    @Sentence(in = "==== 3.", says = "the shortest,")
    private static void t3_ringTheShortest() {
        ring(four("ab", "bc", "ca", "cd", "dc"), "two, not three", 3, 4);
        ring(four("ab", "bc", "cd", "da", "db"), "three, not four", 1, 2, 4);
    }

    @Sentence(in = "==== 3.", says = "of several the first by its PROMISES' numbers (the least number first, then along it).")
    private static void t3_ringTheFirstOfSeveral() {
        ring(four("cd", "ab", "ba", "dc"), "the least number first", 0, 3);
        ring(four("ba", "ab", "ab", "ba"), "then along it", 0, 1);
        // From a, both by b and by c come home to a in three; along it 1 is less than 2.
        ring(four("ab", "bc", "bd", "da", "ca"), "the least along it", 0, 1, 4);
        ring(four("ab", "bd", "bc", "ca", "da"), "the least along it, the other", 0, 1, 4);
        ring(four("bc", "bc", "ca", "ab"), "the least of two alike", 0, 2, 3);
        // The RING 1 2 3 comes behind 0 4 5, though its numbers are closer.
        ring(eight("ab", "de", "ef", "fd", "bc", "ca"), "by the least number", 0, 4, 5);
        PaperBread x = four("ab", "ba", "ba");
        x.letGo(1);
        ring(x, "let go: as if not made", 0, 2);
    }

    // ---- Promises 17 to 23

    @Sentence(in = "Promise 17", says = "HOLDS; STATUS tells NONE from -1")
    private static void p17_statusTellsNoneFromMinus1() {
        PaperBread x = four("bc1");
        Check.fine(x, "holds(1, 0) is -1", x.holds(1, 0), -1);
        Check.none(x, "holds(4, 0) is NONE", x.holds(4, 0), 2);
    }

    @Sentence(in = "Promise 17", says = "(2).")
    private static void p17_2() {
        for (int p : NO_PERSONS) {
            Edges.refused("holds(" + p + ", 0)", x -> x.holds(p, 0), 2);
        }
        for (int l : NO_LOAVES) {
            Edges.refused("holds(0, " + l + ")", x -> x.holds(0, l), 2);
        }
    }

    @Sentence(in = "Promise 18", says = "DEEP (2).")
    private static void p18_2() {
        for (int l : NO_LOAVES) {
            Edges.refused("deep(" + l + ")", x -> x.deep(l), 2);
        }
        PaperBread x = Edges.rich();
        Check.fine(x, "deep(0)", x.deep(0), 3);
        Check.fine(x, "deep(3), the last", x.deep(3), 0);
    }

    @Sentence(in = "Promise 19", says = "Who is FIRST of two persons by a LOAF (2;")
    private static void p19_2() {
        for (int p : NO_PERSONS) {
            Edges.refused("first(" + p + ", 0, 0)", x -> x.first(p, 0, 0), 2);
            Edges.refused("first(0, " + p + ", 0)", x -> x.first(0, p, 0), 2);
            Edges.refused("2 ahead of 5", x -> x.first(p, p, 0), 2);
        }
        for (int l : NO_LOAVES) {
            Edges.refused("first(0, 1, " + l + ")", x -> x.first(0, 1, l), 2);
            Edges.refused("2 ahead of 5", x -> x.first(1, 1, l), 2);
        }
        Check.due("first(1, 2, 0)", Edges.rich().first(1, 2, 0), 1);
    }

    @Sentence(in = "Promise 19", says = "5: one and itself;")
    private static void p19_5() {
        for (int p = 0; p < 3; p++) {
            int same = p;
            Edges.refused("first(" + p + ", " + p + ", 0)", x -> x.first(same, same, 0), 5);
        }
        Edges.refused("5 ahead of 8", x -> x.first(0, 0, 2), 5);
    }

    @Sentence(in = "Promise 19", says = "8: neither is its BAKER, nor had a PROMISE of it).")
    private static void p19_8() {
        Edges.refused("first(1, 2, 3)", x -> x.first(1, 2, 3), 8);
        Edges.refused("of one let go: first(0, 2, 1)", x -> x.first(0, 2, 1), 8);
        PaperBread x = four("ab", "cd");
        Check.none(x, "c promised, but had none: first(2, 2, 0)", x.first(2, 2, 0), 5);
        Check.fine(x, "b had one: first(2, 1, 0)", x.first(2, 1, 0), 1);
        PaperBread y = four("cb", "bd");
        y.letGo(1);
        Check.none(y, "c only gave, d's was let go", y.first(2, 3, 0), 8);
    }

    @Sentence(in = "Promise 20", says = "The k-th of the LINE of a LOAF (2;")
    private static void p20_2() {
        for (int l : NO_LOAVES) {
            Edges.refused("line(" + l + ", 0)", x -> x.line(l, 0), 2);
            Edges.refused("2 ahead of 8", x -> x.line(l, -1), 2);
        }
        PaperBread x = Edges.rich();
        Check.fine(x, "line(0, 0)", x.line(0, 0), 0);
        Check.fine(x, "line(0, 1)", x.line(0, 1), 2);
        Check.fine(x, "line(2, 0) of PAPER", x.line(2, 0), 1);
        Check.fine(x, "line(3, 0) of one BAKED", x.line(3, 0), 0);
    }

    @Sentence(in = "Promise 20", says = "8: none such).")
    private static void p20_8() {
        for (int k : new int[] {-1, 2, 8, MIN, MAX}) {
            Edges.refused("line(0, " + k + ")", x -> x.line(0, k), 8);
        }
    }

    @Sentence(in = "Promise 21", says = "WHOSE a SLICE is, of a LOAF baked wet or not (2;")
    private static void p21_2() {
        for (int l : NO_LOAVES) {
            Edges.refused("whose(" + l + ", 0, false)", x -> x.whose(l, 0, false), 2);
            Edges.refused("whose(" + l + ", 0, true)", x -> x.whose(l, 0, true), 2);
        }
    }

    @Sentence(in = "Promise 21", says = "9: of PAPER, BAKED;")
    private static void p21_9() {
        Edges.refused("of PAPER: whose(2, 0, false)", x -> x.whose(2, 0, false), 9);
        Edges.refused("BAKED: whose(3, 0, true)", x -> x.whose(3, 0, true), 9);
    }

    @Sentence(in = "Promise 21", says = "8: nobody's, none such;")
    private static void p21_8() {
        for (int slice : new int[] {-1, 11, MIN, MAX}) {
            Edges.refused("whose(0, " + slice + ", false)", x -> x.whose(0, slice, false), 8);
        }
        for (int slice : new int[] {-1, 5, 10, MIN, MAX}) {
            Edges.refused("whose(0, " + slice + ", true)", x -> x.whose(0, slice, true), 8);
        }
        PaperBread x = Check.of("person a;oven o;loaf l by a in o on 1 slices 1 flour 0;");
        Check.fine(x, "the only SLICE", x.whose(0, 0, false), 0);
        Check.none(x, "wet there is none", x.whose(0, 0, true), 8);
    }

    @Sentence(in = "Promise 21", says = "in this order).")
    private static void p21_inThisOrder() {
        Edges.refused("2 ahead of 8", x -> x.whose(4, -1, false), 2);
        Edges.refused("9 ahead of 8, of PAPER", x -> x.whose(2, -1, false), 9);
        Edges.refused("9 ahead of 8, BAKED", x -> x.whose(3, 99, false), 9);
    }

    @Sentence(in = "Promise 22", says = "OWN DEPTH (2).")
    private static void p22_2() {
        for (int p : new int[] {-1, 5, 40, MIN, MAX}) {
            Edges.refused("depth(" + p + ")", x -> x.depth(p), 2);
        }
        PaperBread x = Edges.rich();
        Check.fine(x, "depth(4) let go is there", x.depth(4), 0);
        Check.fine(x, "depth(2)", x.depth(2), 3);
    }

    @Sentence(in = "Promise 23", says = "BETWEEN two persons; STATUS tells NONE from -1")
    private static void p23_statusTellsNoneFromMinus1() {
        PaperBread x = four("ba1");
        Check.fine(x, "between(0, 1) is -1", x.between(0, 1), -1);
        Check.none(x, "between(0, 4) is NONE", x.between(0, 4), 2);
    }

    @Sentence(in = "Promise 23", says = "(2; 5: one and itself).")
    private static void p23_refusals() {
        for (int p : NO_PERSONS) {
            Edges.refused("between(" + p + ", 0)", x -> x.between(p, 0), 2);
            Edges.refused("between(0, " + p + ")", x -> x.between(0, p), 2);
            Edges.refused("2 ahead of 5", x -> x.between(p, p), 2);
        }
        for (int p = 0; p < 3; p++) {
            int same = p;
            Edges.refused("between(" + p + ", " + p + ")", x -> x.between(same, same), 5);
        }
    }

    // ---- Promises 24 to 27

    @Sentence(in = "Promise 24", says = "What a person would GET of a LOAF, wet or not, as it is now")
    private static void p24_asItIsNow() {
        PaperBread x = four("ab10");
        Check.fine(x, "gets(1, 0, false)", x.gets(1, 0, false), 10);
        Check.fine(x, "gets(1, 0, true)", x.gets(1, 0, true), 5);
        x.make(1, 0, 1, 2, 0);
        Check.fine(x, "gets(1, 0, false) now", x.gets(1, 0, false), 9);
        x.letGo(0);
        Check.fine(x, "gets(1, 0, false): it OWES now", x.gets(1, 0, false), 0);
        Check.fine(x, "gets(0, 0, false) now", x.gets(0, 0, false), 10);
        Check.fine(x, "gets(2, 0, false): none is left for it", x.gets(2, 0, false), 0);
        x.pass(9);
        Check.fine(x, "its DAY is gone by", x.gets(0, 0, false), 10);
    }

    @Sentence(in = "Promise 24", says = "(2; 9: of PAPER, BAKED).")
    private static void p24_refusals() {
        for (int p : NO_PERSONS) {
            Edges.refused("gets(" + p + ", 0, false)", x -> x.gets(p, 0, false), 2);
            Edges.refused("2 ahead of 9", x -> x.gets(p, 2, true), 2);
        }
        for (int l : NO_LOAVES) {
            Edges.refused("gets(0, " + l + ", false)", x -> x.gets(0, l, false), 2);
        }
        Edges.refused("of PAPER", x -> x.gets(1, 2, false), 9);
        Edges.refused("BAKED", x -> x.gets(0, 3, false), 9);
        Edges.refused("BAKED, wet", x -> x.gets(1, 1, true), 9);
    }

    @Sentence(in = "Promise 25", says = "FACE that would be lost by all together for a LOAF, wet or not")
    private static void p25_byAllTogether() {
        PaperBread x = Edges.rich();
        Check.fine(x, "shame(0, false): bob OWES 2, cid lacks 2", x.shame(0, false), 4);
        Check.fine(x, "shame(0, true): bob OWES 2, cid lacks 6", x.shame(0, true), 8);
        Check.fine(x, "shame(2, false): cid OWES 4, bob lacks 9", x.shame(2, false), 13);
        PaperBread y = four();
        Check.fine(y, "none", y.shame(0, false), 0);
        Check.fine(y, "none, wet", y.shame(0, true), 0);
    }

    @Sentence(in = "Promise 25", says = "(2; 9: BAKED).")
    private static void p25_refusals() {
        for (int l : NO_LOAVES) {
            Edges.refused("shame(" + l + ", false)", x -> x.shame(l, false), 2);
        }
        Edges.refused("BAKED", x -> x.shame(3, false), 9);
        Edges.refused("BAKED, wet", x -> x.shame(1, true), 9);
    }

    @Sentence(in = "Promise 26", says = "The FRACTION is the mean of what a person GETS of a LOAF (what 0), WORTH of a SLICE of it (1)")
    private static void p26_meanAndWorth() {
        PaperBread x = Edges.rich();
        Check.fraction(x, "mean(2, 0, 0): 12 * 4 / 16", x.mean(2, 0, 0), 3, 1);
        Check.fraction(x, "mean(2, 0, 1): by 6", x.mean(2, 0, 1), 1, 2);
        Check.fraction(x, "mean(0, 0, 1): 13 by 2 by 7", x.mean(0, 0, 1), 13, 14);
    }

    @Sentence(in = "Promise 26", says = "(2; 5;")
    private static void p26_2And5() {
        for (int p : NO_PERSONS) {
            Edges.denied("mean(" + p + ", 0, 0)", x -> x.mean(p, 0, 0), 2);
        }
        for (int l : NO_LOAVES) {
            Edges.denied("mean(0, " + l + ", 0)", x -> x.mean(0, l, 0), 2);
        }
        for (int what : new int[] {-1, 2, MIN, MAX}) {
            Edges.denied("mean(0, 0, " + what + ")", x -> x.mean(0, 0, what), 5);
        }
    }

    @Sentence(in = "Promise 26", says = "9: of PAPER, BAKED;")
    private static void p26_9() {
        Edges.denied("of PAPER", x -> x.mean(1, 2, 0), 9);
        Edges.denied("BAKED", x -> x.mean(0, 3, 1), 9);
    }

    @Sentence(in = "Promise 26", says = "8: what 1: it HOLDS none;")
    private static void p26_8() {
        Edges.denied("it OWES: mean(1, 0, 1)", x -> x.mean(1, 0, 1), 8);
        Supplier<PaperBread> nothing = Edges.of(FOUR, x -> { });
        Edges.denied("it HOLDS 0: mean(3, 0, 1)", nothing, x -> x.mean(3, 0, 1), 8);
        PaperBread x = nothing.get();
        Check.fraction(x, "what 0 is 0 by 1 then", x.mean(3, 0, 0), 0, 1);
        PaperBread y = four("ab1");
        Check.fraction(y, "it HOLDS 1", y.mean(1, 0, 1), 1, 1);
    }

    @Sentence(in = "Promise 26", says = "in this order).")
    private static void p26_inThisOrder() {
        Edges.denied("2 ahead of 5", x -> x.mean(3, 0, 2), 2);
        Edges.denied("2 ahead of 9", x -> x.mean(3, 2, 0), 2);
        Edges.denied("5 ahead of 9, of PAPER", x -> x.mean(0, 2, 2), 5);
        Edges.denied("5 ahead of 9, BAKED", x -> x.mean(0, 3, -1), 5);
        Edges.denied("9 ahead of 8, of PAPER", x -> x.mean(0, 2, 1), 9);
        Edges.denied("9 ahead of 8, BAKED", x -> x.mean(2, 3, 1), 9);
    }

    @Sentence(in = "Promise 27", says = "NET; STATUS tells NONE from -1")
    private static void p27_statusTellsNoneFromMinus1() {
        PaperBread x = four("ab1");
        Check.fine(x, "net(0) is -1", x.net(0), -1);
        Check.none(x, "net(4) is NONE", x.net(4), 2);
    }

    @Sentence(in = "Promise 27", says = "(2).")
    private static void p27_2() {
        for (int p : NO_PERSONS) {
            Edges.refused("net(" + p + ")", x -> x.net(p), 2);
        }
    }

    // ---- Promises 28 to 31

    @Sentence(in = "Promise 28", says = "The fewest HAND-OVERS.")
    private static void p28_ofNobodyAndOfOne() {
        PaperBread x = new PaperBread();
        Check.fine(x, "of nobody", x.handOvers(), 0);
        PaperBread y = Check.of("person a;loaf l by a on 1 slices 9 flour 0;");
        Check.fine(y, "of one", y.handOvers(), 0);
        PaperBread z = Edges.rich();
        // NETS: ann -4, bob 7, cid -3.
        Check.fine(z, "handOvers()", z.handOvers(), 2);
        z.letGo(3);
        // NETS: ann -4, bob -2, cid 6.
        Check.fine(z, "as it is now", z.handOvers(), 2);
        z.letGo(0);
        // NETS: ann 2, bob -8, cid 6.
        Check.fine(z, "as it is now", z.handOvers(), 2);
        z.letGo(1);
        // NETS: ann 2, bob 0, cid -2.
        Check.fine(z, "as it is now", z.handOvers(), 1);
        z.letGo(2);
        Check.fine(z, "all were let go", z.handOvers(), 0);
        z.make(3, 2, 0, 1, 0);
        Check.fine(z, "one was made", z.handOvers(), 1);
    }

    @Sentence(in = "Promise 29", says = "RING: how many PROMISES (8: there is none).")
    private static void p29_8() {
        Edges.refused("of nobody", PaperBread::new, PaperBread::ring, 8);
        Edges.refused("the RING ahead is told on", Edges.rich(x -> {
            x.letGo(2);
            x.letGo(3);
        }), PaperBread::ring, 8);
        PaperBread x = Edges.rich();
        Check.fine(x, "ring()", x.ring(), 2);
        PaperBread y = eight("ab", "bc", "cd", "de", "ef", "fg", "gh", "ha");
        Check.fine(y, "as long as it can be", y.ring(), 8);
    }

    @Sentence(in = "Promise 30", says = "Its k-th PROMISE, by ring() latest with STATUS 0")
    private static void p30_byRingLatestWith0() {
        PaperBread x = Edges.rich();
        Check.fine(x, "ringAt(0)", x.ringAt(0), 1);
        Check.fine(x, "ringAt(1)", x.ringAt(1), 3);
        x.letGo(3);
        Check.fine(x, "ringAt(1) as it was asked", x.ringAt(1), 3);
        Check.fine(x, "ring()", x.ring(), 3);
        int[] due = {0, 1, 2};
        for (int k = 0; k < 3; k++) {
            Check.fine(x, "ringAt(" + k + ") by the latest", x.ringAt(k), due[k]);
        }
        x.letGo(2);
        Check.none(x, "ring()", x.ring(), 8);
        for (int k = 0; k < 3; k++) {
            Check.fine(x, "ringAt(" + k + ") by the latest with 0", x.ringAt(k), due[k]);
        }
    }

    @Sentence(in = "Promise 30", says = "(8: none such).")
    private static void p30_8() {
        for (int k : new int[] {-1, 2, 8, MIN, MAX}) {
            Edges.refused("ringAt(" + k + ")", x -> x.ringAt(k), 8);
        }
        Edges.refused("ringAt(0) ahead of any ring()", PaperBread::new, x -> x.ringAt(0), 8);
        PaperBread x = eight("ab", "ba", "cd");
        x.letGo(0);
        Check.none(x, "ring()", x.ring(), 8);
        Check.none(x, "ringAt(0) behind one with 8 alone", x.ringAt(0), 8);
    }

    @Sentence(in = "Promise 31", says = "Who OWES SLICES of a LOAF: a set (1 for person 0 ..)")
    private static void p31_aSet() {
        PaperBread x = eight("ab10", "hb1");
        Check.fine(x, "the first and the eighth", x.owing(0), 129);
        Check.fine(x, "of another LOAF nobody", x.owing(1), 0);
        Check.due("a alone is at 0", eight("ab9").owing(0), 0);
    }

    @Sentence(in = "Promise 31", says = "(2).")
    private static void p31_2() {
        for (int l : NO_LOAVES) {
            Edges.refused("owing(" + l + ")", x -> x.owing(l), 2);
        }
        PaperBread x = Edges.rich();
        Check.fine(x, "owing(2) of PAPER", x.owing(2), 4);
        Check.fine(x, "owing(3) of one BAKED", x.owing(3), 0);
    }

    public static void main(String[] args) {
        Edges.run(EdgesHeldTest.class);
    }
}
