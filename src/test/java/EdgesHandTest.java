import java.util.function.Supplier;

/** The sentences of promises 38 to 43, 47 and 48: by hand, and MARKS, one test each. */
public final class EdgesHandTest {
    private static final int MIN = Edges.MIN;
    private static final int MAX = Edges.MAX;
    private static final int[] NO_PERSONS = {-1, 3, 8, MIN, MAX};
    private static final int[] NO_LOAVES = {-1, 4, 8, MIN, MAX};

    /** The busy object with as many PROMISES as there may be, the later ones of ink. */
    private static Supplier<PaperBread> forty() {
        return Edges.rich(x -> {
            for (int i = x.many(3); i < 40; i++) {
                x.make(1, 2, 2, 1, 0);
            }
        });
    }

    private static Supplier<PaperBread> onDay(int day) {
        return Edges.rich(x -> {
            for (int today = x.many(4); today < day; today = x.many(4)) {
                x.pass(Math.min(9, day - today));
            }
        });
    }

    // ---- Promise 38

    @Sentence(in = "Promise 38", says = "A PROMISE is made: its number")
    private static void p38_itsNumber() {
        PaperBread x = Edges.rich();
        Check.fine(x, "make(1, 0, 0, 1, 0)", x.make(1, 0, 0, 1, 0), 5);
        Check.fine(x, "make(99, 2, 2, 0, 999)", x.make(99, 2, 2, 0, 999), 6);
        int[] due = {99, 2, 2, 0, 999, 0};
        for (int what = 0; what < 6; what++) {
            Check.fine(x, "promise(6, " + what + ")", x.promise(6, what), due[what]);
        }
        Check.fine(x, "many(3)", x.many(3), 7);
        Check.fine(x, "holds(0, 2)", x.holds(0, 2), 99);
        Check.fine(x, "person(0, 0)", x.person(0, 0), 24 - 999);
        Check.fine(x, "person(2, 0)", x.person(2, 0), 2 + 999);
    }

    @Sentence(in = "Promise 38", says = "(2;")
    private static void p38_2() {
        for (int l : NO_LOAVES) {
            Edges.refused("make(1, " + l + ", 0, 1, 0)", x -> x.make(1, l, 0, 1, 0), 2);
        }
        for (int p : NO_PERSONS) {
            Edges.refused("make(1, 0, " + p + ", 1, 0)", x -> x.make(1, 0, p, 1, 0), 2);
            Edges.refused("make(1, 0, 0, " + p + ", 0)", x -> x.make(1, 0, 0, p, 0), 2);
            Edges.refused("2 ahead of 5", x -> x.make(0, 0, p, p, -1), 2);
        }
        Edges.refused("2 ahead of 7", forty(), x -> x.make(1, 4, 0, 1, 0), 2);
    }

    @Sentence(in = "Promise 38", says = "5: SLICES 1 to 99,")
    private static void p38_5Slices1To99() {
        for (int slices : new int[] {0, -1, 100, MIN, MAX}) {
            Edges.refused("make(" + slices + ", 0, 0, 1, 0)", x -> x.make(slices, 0, 0, 1, 0), 5);
        }
        PaperBread x = Edges.rich();
        Check.fine(x, "make(1, 0, 0, 1, 0)", x.make(1, 0, 0, 1, 0), 5);
        Check.fine(x, "make(99, 0, 0, 1, 0)", x.make(99, 0, 0, 1, 0), 6);
    }

    @Sentence(in = "Promise 38", says = "a price 0 to 999,")
    private static void p38_5Price0To999() {
        for (int price : new int[] {-1, 1000, MIN, MAX}) {
            Edges.refused("make(1, 0, 0, 1, " + price + ")", x -> x.make(1, 0, 0, 1, price), 5);
        }
        PaperBread x = Edges.rich();
        Check.fine(x, "make(1, 0, 0, 1, 0)", x.make(1, 0, 0, 1, 0), 5);
        Check.fine(x, "make(1, 0, 0, 1, 999)", x.make(1, 0, 0, 1, 999), 6);
    }

    @Sentence(in = "Promise 38", says = "from whom it is to;")
    private static void p38_5FromWhomItIsTo() {
        for (int p = 0; p < 3; p++) {
            int same = p;
            Edges.refused("make(1, 0, " + p + ", " + p + ", 0)", x -> x.make(1, 0, same, same, 0), 5);
        }
        Edges.refused("5 ahead of 7", forty(), x -> x.make(1, 2, 1, 1, 0), 5);
        Edges.refused("5 ahead of 9", x -> x.make(1, 3, 1, 1, 0), 5);
    }

    @Sentence(in = "Promise 38", says = "7: there are 40;")
    private static void p38_7ThereAre40() {
        PaperBread x = Edges.rich();
        for (int i = 5; i < 40; i++) {
            Check.fine(x, "make " + i, x.make(1, 2, 2, 1, 0), i);
        }
        Check.none(x, "make 40", x.make(1, 2, 2, 1, 0), 7);
        Edges.refused("make 40", forty(), y -> y.make(1, 0, 0, 1, 7), 7);
        Edges.refused("those let go count", Edges.rich(y -> {
            for (int i = 5; i < 40; i++) {
                y.make(1, 2, 2, 1, 0);
            }
            y.letGo(39);
        }), y -> y.make(1, 0, 0, 1, 7), 7);
        Edges.refused("7 ahead of 9", forty(), y -> y.make(1, 3, 0, 1, 7), 7);
    }

    @Sentence(in = "Promise 38", says = "9: the LOAF is BAKED).")
    private static void p38_9TheLoafIsBaked() {
        Edges.refused("make(1, 3, 0, 1, 0)", x -> x.make(1, 3, 0, 1, 0), 9);
        Edges.refused("make(1, 1, 1, 2, 5)", x -> x.make(1, 1, 1, 2, 5), 9);
        PaperBread x = onDay(99).get();
        Check.fine(x, "a DAY gone by is no bar", x.make(1, 0, 0, 1, 0), 5);
        Check.fine(x, "nor is PAPER", x.make(1, 2, 0, 1, 0), 6);
    }

    // ---- Promise 39

    @Sentence(in = "Promise 39", says = "A PROMISE is let go")
    private static void p39_letGo() {
        PaperBread x = Edges.rich();
        Check.fine(x, "letGo(0)", x.letGo(0));
        Check.fine(x, "its price goes back: person(0, 0)", x.person(0, 0), 20);
        Check.fine(x, "its price goes back: person(1, 0)", x.person(1, 0), 3);
        Check.fine(x, "holds(0, 0)", x.holds(0, 0), 13);
        Check.fine(x, "holds(1, 0)", x.holds(1, 0), -8);
        Check.fine(x, "its number stays: promise(0, 5)", x.promise(0, 5), 1);
        Check.fine(x, "promise(0, 0)", x.promise(0, 0), 6);
        Check.fine(x, "promise(1, 0)", x.promise(1, 0), 8);
        Check.fine(x, "the next has its own", x.make(1, 0, 0, 1, 0), 5);
    }

    @Sentence(in = "Promise 39", says = "(2;")
    private static void p39_2() {
        for (int p : new int[] {-1, 5, 40, MIN, MAX}) {
            Edges.denied("letGo(" + p + ")", x -> x.letGo(p), 2);
        }
        PaperBread x = forty().get();
        Check.fine(x, "letGo(39)", x.letGo(39));
    }

    @Sentence(in = "Promise 39", says = "9: it was, its LOAF is BAKED).")
    private static void p39_9() {
        Edges.denied("it was: letGo(4)", x -> x.letGo(4), 9);
        Edges.denied("it was: letGo(0)", Edges.rich(x -> x.letGo(0)), x -> x.letGo(0), 9);
        Supplier<PaperBread> baked = Edges.rich(x -> {
            x.pass(1);
            x.bake(0);
        });
        for (int p = 0; p < 3; p++) {
            int promise = p;
            Edges.denied("its LOAF is BAKED: letGo(" + p + ")", baked, x -> x.letGo(promise), 9);
        }
        PaperBread x = baked.get();
        Check.fine(x, "another LOAF is", x.letGo(3));
    }

    // ---- Promise 40

    @Sentence(in = "Promise 40", says = "The LOAF is BAKED: how many SLICES")
    private static void p40_howManySlices() {
        PaperBread x = onDay(2).get();
        Check.fine(x, "bake(0), dry", x.bake(0), 11);
        Check.fine(x, "many(5)", x.many(5), 11);
        Check.fine(x, "loaf(0, 5)", x.loaf(0, 5), 11);
        int[] own = {10, 1, 4};
        int[] face = {2, 2, 0};
        for (int p = 0; p < 3; p++) {
            Check.fine(x, "person(" + p + ", 1)", x.person(p, 1), own[p]);
            Check.fine(x, "person(" + p + ", 2)", x.person(p, 2), face[p]);
        }
        PaperBread one = Check.of("person a;oven o rain 16;loaf l by a in o on 1 slices 1 flour 0;", "wait 1;");
        one.live(0);
        Check.fine(one, "half of 1 is none", one.bake(0), 0);
        Check.fine(one, "it is BAKED all the same", one.many(5), 1);
    }

    @Sentence(in = "Promise 40", says = "(2; 9: it was, of PAPER, not its DAY).")
    private static void p40_refusals() {
        for (int l : NO_LOAVES) {
            Edges.refused("bake(" + l + ")", x -> x.bake(l), 2);
        }
        Edges.refused("it was: bake(1)", x -> x.bake(1), 9);
        Edges.refused("it was: bake(0)", Edges.rich(x -> {
            x.pass(1);
            x.bake(0);
        }), x -> x.bake(0), 9);
        Edges.refused("of PAPER, on its DAY: bake(2)", onDay(3), x -> x.bake(2), 9);
        Edges.refused("not its DAY: bake(0) a DAY ahead", x -> x.bake(0), 9);
        Edges.refused("not its DAY: bake(0) a DAY behind", onDay(3), x -> x.bake(0), 9);
    }

    // ---- Promise 41

    @Sentence(in = "Promise 41", says = "So many DAYS go by (1 to 9),")
    private static void p41_days1To9() {
        for (int days : new int[] {0, -1, 10, MIN, MAX}) {
            Edges.refused("pass(" + days + ")", x -> x.pass(days), 5);
        }
        PaperBread x = Edges.rich();
        Check.fine(x, "pass(1)", x.pass(1), 2);
        Check.fine(x, "pass(9)", x.pass(9), 11);
    }

    @Sentence(in = "Promise 41", says = "all OVENS dry: which DAY it is")
    private static void p41_allOvensDry() {
        PaperBread x = Edges.rich();
        Check.fine(x, "old is WET ahead", x.many(6), 2);
        Check.fine(x, "pass(1)", x.pass(1), 2);
        Check.fine(x, "many(6)", x.many(6), 0);
        Check.fine(x, "many(4)", x.many(4), 2);
    }

    @Sentence(in = "Promise 41", says = "(5; 7: above 99).")
    private static void p41_7Above99() {
        Edges.refused("pass(1) on DAY 99", onDay(99), x -> x.pass(1), 7);
        Edges.refused("pass(9) on DAY 91", onDay(91), x -> x.pass(9), 7);
        Edges.refused("5 ahead of 7", onDay(99), x -> x.pass(10), 5);
        Edges.refused("5 ahead of 7", onDay(99), x -> x.pass(MAX), 5);
        PaperBread x = onDay(90).get();
        Check.fine(x, "pass(9) on DAY 90", x.pass(9), 99);
        PaperBread y = onDay(98).get();
        Check.fine(y, "pass(1) on DAY 98", y.pass(1), 99);
    }

    // ---- Promises 42 and 43

    @Sentence(in = "Promise 42", says = "A person eats (1 to 99): how many")
    private static void p42_slices1To99() {
        for (int slices : new int[] {0, -1, 100, MIN, MAX}) {
            Edges.refused("eat(0, " + slices + ")", x -> x.eat(0, slices), 5);
        }
        PaperBread x = Edges.rich();
        Check.fine(x, "eat(0, 1)", x.eat(0, 1), 1);
        Check.fine(x, "person(0, 1)", x.person(0, 1), 2);
        Check.fine(x, "eat(0, 99): all it has", x.eat(0, 99), 2);
        Check.fine(x, "person(0, 1)", x.person(0, 1), 0);
        Check.fine(x, "eat(0, 1): it has none", x.eat(0, 1), 0);
        Check.fine(x, "eat(2, 99): it never had any", x.eat(2, 99), 0);
        PaperBread y = Check.of("person a;oven o;loaf l by a in o on 0 slices 99 flour 0;loaf m by a in o on 0 slices 99 flour 0;");
        y.bake(0);
        y.bake(1);
        Check.fine(y, "eat(0, 99) of 198", y.eat(0, 99), 99);
        Check.fine(y, "person(0, 1)", y.person(0, 1), 99);
        Check.fine(y, "eat(0, 99), just all", y.eat(0, 99), 99);
        Check.fine(y, "person(0, 1)", y.person(0, 1), 0);
    }

    @Sentence(in = "Promise 42", says = "(2; 5).")
    private static void p42_refusals() {
        for (int p : NO_PERSONS) {
            Edges.refused("eat(" + p + ", 1)", x -> x.eat(p, 1), 2);
            Edges.refused("2 ahead of 5", x -> x.eat(p, 0), 2);
        }
    }

    @Sentence(in = "Promise 43", says = "So much (1 to 999) goes from one PURSE to another")
    private static void p43_much1To999() {
        for (int much : new int[] {0, -1, 1000, MIN, MAX}) {
            Edges.denied("pay(0, 1, " + much + ")", x -> x.pay(0, 1, much), 5);
        }
        PaperBread x = Edges.rich();
        Check.fine(x, "pay(0, 1, 1)", x.pay(0, 1, 1));
        Check.fine(x, "person(0, 0)", x.person(0, 0), 23);
        Check.fine(x, "person(1, 0)", x.person(1, 0), 0);
        PaperBread y = Check.of("person a purse 999;person b;");
        Check.fine(y, "pay(0, 1, 999)", y.pay(0, 1, 999));
        Check.fine(y, "person(0, 0)", y.person(0, 0), 0);
        Check.fine(y, "person(1, 0)", y.person(1, 0), 999);
    }

    @Sentence(in = "Promise 43", says = "(2; 5: one and itself, too;")
    private static void p43_2And5() {
        for (int p : NO_PERSONS) {
            Edges.denied("pay(" + p + ", 0, 1)", x -> x.pay(p, 0, 1), 2);
            Edges.denied("pay(0, " + p + ", 1)", x -> x.pay(0, p, 1), 2);
            Edges.denied("2 ahead of 5", x -> x.pay(p, p, 0), 2);
        }
        for (int p = 0; p < 3; p++) {
            int same = p;
            Edges.denied("pay(" + p + ", " + p + ", 1)", x -> x.pay(same, same, 1), 5);
        }
        Edges.denied("5 ahead of 9, to itself", x -> x.pay(1, 1, 999), 5);
        Edges.denied("5 ahead of 9", x -> x.pay(1, 0, 1000), 5);
    }

    @Sentence(in = "Promise 43", says = "9: it has not so much).")
    private static void p43_9() {
        Edges.denied("one more than it has", x -> x.pay(0, 1, 25), 9);
        Edges.denied("it is below 0", x -> x.pay(1, 0, 1), 9);
        Edges.denied("it has nothing", Edges.rich(x -> x.pay(2, 0, 2)), x -> x.pay(2, 0, 1), 9);
        Edges.denied("999", x -> x.pay(0, 1, 999), 9);
        PaperBread x = Edges.rich();
        Check.fine(x, "all it has", x.pay(0, 1, 24));
        Check.fine(x, "person(0, 0)", x.person(0, 0), 0);
    }

    // ---- MARKS

    @Sentence(in = "==== 4.", says = "MARKS, at most 3:")
    private static void t4_marksAtMost3() {
        PaperBread x = new PaperBread();
        for (int i = 1; i <= 3; i++) {
            Check.fine(x, "mark() " + i, x.mark(), i);
        }
        Check.none(x, "mark() 4", x.mark(), 7);
        Edges.refused("mark() 4", Edges.rich(PaperBread::mark), PaperBread::mark, 7);
    }

    @Sentence(in = "==== 4.", says = "the TOWN with all that became of it, the DAYS are kept as they are;")
    private static void t4_marksKeepTheTownAndTheDays() {
        PaperBread x = Edges.blank();
        Check.fine(x, "mark()", x.mark(), 3);
        x.make(5, 0, 0, 2, 7);
        x.letGo(0);
        x.eat(0, 2);
        x.pay(0, 2, 3);
        x.pass(1);
        x.bake(0);
        x.days(0);
        Check.town(x, "person zed;oven o;loaf k by zed in o on 0 slices 8 flour 0;"
                + "loaf l by zed in o on 0 slices 9 flour 0;");
        x.bake(0);
        x.bake(1);
        Check.fine(x, "loaf(1, 5) of another TOWN", x.loaf(1, 5), 9);
        Check.fine(x, "back()", x.back(), 2);
        int[] many = {3, 2, 4, 5, 1, 10, 2};
        for (int what = 0; what < 7; what++) {
            Check.fine(x, "many(" + what + ")", x.many(what), many[what]);
        }
        int[][] due = {{24, 3, 0}, {-1, 1, 0}, {2, 0, 0}};
        for (int p = 0; p < 3; p++) {
            for (int what = 0; what < 3; what++) {
                Check.fine(x, "person(" + p + ", " + what + ")", x.person(p, what), due[p][what]);
            }
        }
        Check.fine(x, "promise(0, 5)", x.promise(0, 5), 0);
        Check.none(x, "loaf(0, 5)", x.loaf(0, 5), 8);
        Check.fine(x, "loaf(1, 5)", x.loaf(1, 5), 3);
        Check.fine(x, "the DAYS", x.live(0), 3);
        Check.fine(x, "the NAMES", Check.days(x, "eat cid 1;"), 1);
    }

    @Sentence(in = "==== 4.", says = "all is taken back to the latest MARK, which is gone then.")
    private static void t4_theLatestMarkIsGoneThen() {
        PaperBread x = new PaperBread();
        for (int i = 1; i <= 3; i++) {
            x.mark();
            x.pass(i);
        }
        int[] due = {3, 1, 0};
        for (int i = 0; i < 3; i++) {
            Check.fine(x, "back()", x.back(), 2 - i);
            Check.fine(x, "many(4)", x.many(4), due[i]);
        }
        Check.none(x, "back()", x.back(), 8);
        Check.fine(x, "mark() anew", x.mark(), 1);
        x.pass(4);
        Check.fine(x, "back()", x.back(), 0);
        Check.fine(x, "many(4)", x.many(4), 0);
    }

    @Sentence(in = "Promise 47", says = "A MARK more: how many there are (7).")
    private static void p47_7() {
        PaperBread x = Edges.rich();
        Check.fine(x, "the third", x.mark(), 3);
        Check.none(x, "the fourth", x.mark(), 7);
        x.back();
        Check.fine(x, "one is gone", x.mark(), 3);
        Edges.refused("the fourth", Edges.rich(y -> {
            y.mark();
            y.pass(1);
        }), PaperBread::mark, 7);
        Edges.unchangedBut("the third changes nothing but the MARKS", Edges::rich, PaperBread::mark, Edges.MARKS);
    }

    @Sentence(in = "Promise 48", says = "All is taken back to the latest MARK: how many there are left (8).")
    private static void p48_8() {
        PaperBread x = Edges.rich();
        Check.fine(x, "back()", x.back(), 1);
        Check.fine(x, "bun is BAKED there, oat is not", x.many(5), 8);
        Check.fine(x, "back()", x.back(), 0);
        Check.fine(x, "nothing is BAKED there", x.many(5), 0);
        Check.none(x, "back()", x.back(), 8);
        Edges.refused("there is none", Edges.rich(y -> {
            y.back();
            y.back();
        }), PaperBread::back, 8);
    }

    public static void main(String[] args) {
        Edges.run(EdgesHandTest.class);
    }
}
