/** Promises 38 to 43, 47 and 48: what is done by hand, and MARKS. */
public final class HandTest {
    private static final String TOWN = "person ann purse 20;person bob purse 5;person cid;oven hot rain 16;"
            + "loaf rye by ann in hot on 2 slices 11 flour 30;loaf ink by cid on 2 slices 5 flour 0;"
            + "promise 6 of rye from ann to bob for 4;promise 8 of rye from bob to cid for 9;";

    private static void make() {
        PaperBread x = Check.of(TOWN);
        Check.fine(x, "make(99, 0, 2, 1, 999)", x.make(99, 0, 2, 1, 999), 2);
        Check.fine(x, "person(1, 0)", x.person(1, 0), 5 - 4 + 9 - 999);
        Check.fine(x, "person(2, 0)", x.person(2, 0), -9 + 999);
        Check.fine(x, "holds(2, 0)", x.holds(2, 0), -91);
        Check.none(x, "make(0, 2, 0, 1, 0)", x.make(0, 2, 0, 1, 0), 2);
        Check.none(x, "make(1, 0, 3, 1, 0)", x.make(1, 0, 3, 1, 0), 2);
        Check.none(x, "make(1, 0, 0, -1, 0)", x.make(1, 0, 0, -1, 0), 2);
        Check.none(x, "make(0, 0, 0, 1, 0)", x.make(0, 0, 0, 1, 0), 5);
        Check.none(x, "make(100, 0, 0, 1, 0)", x.make(100, 0, 0, 1, 0), 5);
        Check.none(x, "make(1, 0, 0, 1, -1)", x.make(1, 0, 0, 1, -1), 5);
        Check.none(x, "make(1, 0, 0, 1, 1000)", x.make(1, 0, 0, 1, 1000), 5);
        Check.none(x, "make(1, 0, 1, 1, 0)", x.make(1, 0, 1, 1, 0), 5);
        Check.fine(x, "many(3)", x.many(3), 3);
        x.pass(2);
        x.bake(0);
        Check.none(x, "make(1, 0, 0, 1, 0)", x.make(1, 0, 0, 1, 0), 9);
        for (int i = 3; i < 40; i++) {
            Check.fine(x, "make " + i, x.make(1, 1, 0, 1, 0), i);
        }
        Check.none(x, "the 41st", x.make(1, 1, 0, 1, 0), 7);
        Check.none(x, "the 41st, of one BAKED", x.make(1, 0, 0, 1, 0), 7);
        Check.none(x, "the 41st, to itself", x.make(1, 0, 1, 1, 0), 5);
        x.letGo(39);
        Check.none(x, "those let go count", x.make(1, 1, 0, 1, 0), 7);
    }

    private static void letGo() {
        PaperBread x = Check.of(TOWN);
        Check.fine(x, "letGo(1)", x.letGo(1));
        Check.fine(x, "person(1, 0)", x.person(1, 0), 1);
        Check.fine(x, "person(2, 0)", x.person(2, 0), 0);
        Check.fine(x, "holds(2, 0)", x.holds(2, 0), 0);
        Check.no(x, "letGo(1) again", x.letGo(1), 9);
        Check.no(x, "letGo(2)", x.letGo(2), 2);
        Check.no(x, "letGo(-1)", x.letGo(-1), 2);
        x.pass(2);
        x.bake(0);
        Check.no(x, "letGo(0) of one BAKED", x.letGo(0), 9);
        Check.fine(x, "person(0, 0)", x.person(0, 0), 24);
        Check.fine(x, "promise(0, 5)", x.promise(0, 5), 0);
    }

    private static void bake() {
        PaperBread x = Check.of(TOWN);
        Check.none(x, "bake(0) too early", x.bake(0), 9);
        x.pass(2);
        Check.none(x, "bake(2)", x.bake(2), 2);
        Check.none(x, "bake(-1)", x.bake(-1), 2);
        Check.none(x, "bake(1) of PAPER", x.bake(1), 9);
        Check.fine(x, "bake(0): dry by hand", x.bake(0), 11);
        Check.fine(x, "many(5)", x.many(5), 1);
        int[] own = {5, 0, 6};
        int[] face = {2, 2, 0};
        for (int p = 0; p < 3; p++) {
            Check.fine(x, "person(" + p + ", 1)", x.person(p, 1), own[p]);
            Check.fine(x, "person(" + p + ", 2)", x.person(p, 2), face[p]);
        }
        Check.none(x, "bake(0) again", x.bake(0), 9);
        PaperBread y = Check.of(TOWN);
        y.pass(3);
        Check.none(y, "bake(0) too late", y.bake(0), 9);
    }

    /** An OVEN that is WET by the DAYS is WET for the hand, too, until the DAY is gone. */
    private static void bakeWet() {
        PaperBread x = Check.of(TOWN, "wait 2;");
        x.live(1);
        Check.fine(x, "many(6)", x.many(6), 1);
        x.mark();
        Check.fine(x, "bake(0)", x.bake(0), 5);
        Check.fine(x, "loaf(0, 5)", x.loaf(0, 5), 5);
        int[] own = {5, 0, 0};
        int[] face = {8, 2, 0};
        for (int p = 0; p < 3; p++) {
            Check.fine(x, "person(" + p + ", 1)", x.person(p, 1), p == 0 ? own[p] : 0);
        }
        Check.fine(x, "person(0, 2)", x.person(0, 2), face[0]);
        Check.fine(x, "person(1, 2)", x.person(1, 2), face[1]);
        x.back();
        Check.fine(x, "many(6) back", x.many(6), 1);
        x.pass(1);
        Check.fine(x, "many(6): dry by pass()", x.many(6), 0);
    }

    private static void pass() {
        PaperBread x = new PaperBread();
        Check.none(x, "pass(0)", x.pass(0), 5);
        Check.none(x, "pass(10)", x.pass(10), 5);
        Check.none(x, "pass(-1)", x.pass(-1), 5);
        for (int day = 9; day <= 99; day += 9) {
            Check.fine(x, "pass(9)", x.pass(9), day);
        }
        Check.none(x, "pass(1)", x.pass(1), 7);
        Check.fine(x, "many(4)", x.many(4), 99);
        Check.none(x, "pass(10)", x.pass(10), 5);
    }

    private static void eatAndPay() {
        PaperBread x = Check.of(TOWN);
        Check.fine(x, "eat(0, 9) of nothing", x.eat(0, 9), 0);
        x.pass(2);
        x.bake(0);
        Check.fine(x, "eat(2, 4)", x.eat(2, 4), 4);
        Check.fine(x, "eat(2, 99)", x.eat(2, 99), 2);
        Check.fine(x, "person(2, 1)", x.person(2, 1), 0);
        Check.none(x, "eat(3, 0)", x.eat(3, 0), 2);
        Check.none(x, "eat(0, 0)", x.eat(0, 0), 5);
        Check.none(x, "eat(0, 100)", x.eat(0, 100), 5);
        Check.fine(x, "eat(0, 1)", x.eat(0, 1), 1);
        Check.fine(x, "pay(0, 2, 24)", x.pay(0, 2, 24));
        Check.fine(x, "person(0, 0)", x.person(0, 0), 0);
        Check.fine(x, "person(2, 0)", x.person(2, 0), 15);
        Check.no(x, "pay(0, 2, 1)", x.pay(0, 2, 1), 9);
        Check.no(x, "pay(2, 0, 16)", x.pay(2, 0, 16), 9);
        Check.no(x, "pay(3, 3, 0)", x.pay(3, 3, 0), 2);
        Check.no(x, "pay(0, -1, 1)", x.pay(0, -1, 1), 2);
        Check.no(x, "pay(2, 2, 1)", x.pay(2, 2, 1), 5);
        Check.no(x, "pay(2, 0, 0)", x.pay(2, 0, 0), 5);
        Check.no(x, "pay(2, 0, 1000)", x.pay(2, 0, 1000), 5);
        Check.no(x, "pay(2, 0, 999)", x.pay(2, 0, 999), 9);
    }

    private static void marks() {
        PaperBread x = Check.of(TOWN);
        Check.fine(x, "mark()", x.mark(), 1);
        Check.days(x, "wait 2; bake rye; eat cid 3;");
        Check.fine(x, "mark()", x.mark(), 2);
        x.live(0);
        x.letGo(0);
        x.make(1, 1, 0, 1, 1);
        Check.fine(x, "mark()", x.mark(), 3);
        Check.none(x, "mark()", x.mark(), 7);
        Check.due("town", Check.town(x, "person zed;"), 0);
        Check.none(x, "no DAYS' TEXT", x.live(0), 8);
        Check.fine(x, "back() to the TOWN ahead", x.back(), 2);
        Check.fine(x, "many(0)", x.many(0), 3);
        Check.fine(x, "many(3)", x.many(3), 3);
        Check.fine(x, "many(4)", x.many(4), 2);
        Check.fine(x, "many(5)", x.many(5), 1);
        Check.due("its NAMES, too", Check.days(x, "eat cid 1;"), 1);
        Check.fine(x, "back() to ahead of live()", x.back(), 1);
        Check.fine(x, "many(3)", x.many(3), 2);
        Check.fine(x, "many(4)", x.many(4), 0);
        Check.fine(x, "many(5)", x.many(5), 0);
        Check.fine(x, "person(1, 0)", x.person(1, 0), 10);
        Check.fine(x, "person(0, 2)", x.person(0, 2), 0);
        Check.fine(x, "what lived() tells stays", x.lived(1), 5);
        Check.fine(x, "the DAYS as they were", x.live(0), 3);
        Check.fine(x, "back() to ahead of days()", x.back(), 0);
        Check.none(x, "no DAYS' TEXT", x.live(0), 8);
        Check.none(x, "back()", x.back(), 8);
        Check.fine(x, "mark() anew", x.mark(), 1);
    }

    /** TRAYS, the tape and the FRACTION are none of the TOWN: they stay. */
    private static void whatMarksDoNotKeep() {
        PaperBread x = Check.of(TOWN);
        x.mark();
        x.tray(0, 0, 1);
        x.write(0, 0, 7);
        x.feed(0, 0, 0, 0, 0);
        x.mean(0, 0, 0);
        x.back();
        Check.fine(x, "read(0, 0)", x.read(0, 0), 7);
        Check.due("feed", x.feed(0, 0, 0, 0, 0), 40);
        Check.due("top()", x.top(), 5);
    }

    public static void main(String[] args) {
        make();
        letGo();
        bake();
        bakeWet();
        pass();
        eatAndPay();
        marks();
        whatMarksDoNotKeep();
        Check.end();
    }
}
