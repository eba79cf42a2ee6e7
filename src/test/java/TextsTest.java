/** Promises 9 to 16: the tape, the TOWN, the DAYS, their FAULTS, and what a TOWN has. */
public final class TextsTest {
    private static final String FOLK = "person ann;person bob;oven hot;"
            + "loaf rye by ann in hot on 1 slices 4 flour 2;";

    private static void feed() {
        PaperBread x = new PaperBread();
        for (int i = 1; i <= 45; i++) {
            Check.due("feed " + i, x.feed(538976288, 538976288, 538976288, 538976288, 538976288), 20 * i);
        }
        Check.due("feed 46", x.feed(0, 0, 0, 0, 0), -1);
        Check.none(x, "town(901)", x.town(901), 5);
        Check.due("feed 46", x.feed(0, 0, 0, 0, 0), -1);
        Check.fine(x, "town(900)", x.town(900), 0);
        Check.due("feed behind it", x.feed(0, 0, 0, 0, 0), 20);
    }

    /** The highest byte of each int comes first. */
    private static void order() {
        PaperBread x = new PaperBread();
        x.feed(0x70657273, 0x6f6e2061, 0x3b6f7665, 0x6e206f3b, 0x20202021);
        Check.fine(x, "town(19)", x.town(19), 0);
        Check.fine(x, "many(0)", x.many(0), 1);
        Check.fine(x, "many(1)", x.many(1), 1);
        x.feed(0x70657273, 0x6f6e2061, 0x3b6f7665, 0x6e206f3b, 0x20202021);
        Check.none(x, "town(20)", x.town(20), 10);
        Check.due("fault(0)", x.fault(0), 1);
        Check.due("fault(1)", x.fault(1), 19);
    }

    private static void townTaken() {
        PaperBread x = new PaperBread();
        Check.none(x, "town(-1)", x.town(-1), 5);
        Check.none(x, "town(1)", x.town(1), 5);
        Check.fine(x, "town(0)", x.town(0), 0);
        Check.due("fault(0)", x.fault(0), 0);
        Check.due("fault(1)", x.fault(1), -1);
        Check.due("fault(2)", x.fault(2), -1);
        Check.due("fault(-1)", x.fault(-1), -1);
        Check.due("town", Check.town(x, FOLK + "promise 3 of rye from bob to ann for 7;"), 1);
        Check.due("days", Check.days(x, "wait 1; bake rye;"), 2);
        x.live(0);
        Check.fine(x, "many(5)", x.many(5), 1);
        int n = Check.feed(x, "person cid;;");
        Check.none(x, "town with 5", x.town(n + 20), 5);
        Check.due("fault(0) by the latest with 0 or 10", x.fault(0), 0);
        Check.none(x, "town with a FAULT", x.town(n), 10);
        Check.due("fault(0)", x.fault(0), 2);
        Check.due("fault(1)", x.fault(1), 11);
        Check.none(x, "the tape is empty", x.town(1), 5);
        Check.fine(x, "the old one stays: many(0)", x.many(0), 2);
        Check.fine(x, "its DAYS, too", x.live(0), 2);
        Check.due("town", Check.town(x, "person a;person b;oven o;loaf l by b in o on 0 slices 1 flour 0;"), 1);
        Check.fine(x, "many(4)", x.many(4), 0);
        Check.fine(x, "many(5)", x.many(5), 0);
        Check.fine(x, "many(3)", x.many(3), 0);
        Check.none(x, "live(0)", x.live(0), 8);
    }

    /** TOKENS go as long as they can; blanks need not stand between them. */
    private static void tokens() {
        PaperBread x = new PaperBread();
        Check.due("town", Check.town(x, "\n person\nann purse0009;oven hot rain16;"
                + "loaf abcdefgh by ann in hot on00 slices 99 flour 0999;"), 1);
        Check.fine(x, "person(0, 0)", x.person(0, 0), 9);
        Check.fine(x, "loaf(0, 3)", x.loaf(0, 3), 99);
        Check.fine(x, "loaf(0, 4)", x.loaf(0, 4), 999);
        Check.townFault("person an n;", 2, 10);
        Check.townFault("person a purse 00009;", 1, 15);
        Check.townFault("person a purse 12345;", 1, 15);
        Check.townFault("personann;", 2, 0);
    }

    private static void townFaults() {
        Check.townFault("Person a;", 1, 0);
        Check.townFault("person a!;", 1, 8);
        Check.townFault("person a\t;", 1, 8);
        Check.townFault("person \u00e9;", 1, 7);
        Check.townFault("person", 2, 6);
        Check.townFault("person  \n", 2, 9);
        Check.townFault("person a", 2, 8);
        Check.townFault("person a;  ; !", 2, 11);
        Check.townFault("person 7;", 2, 7);
        Check.townFault("person oven;", 2, 7);
        Check.townFault("person stop;", 2, 7);
        Check.townFault("person abcdefghi;", 2, 7);
        Check.townFault("person a rain 3;", 2, 9);
        Check.townFault("person a purse;", 2, 14);
        Check.townFault("bake a;", 2, 0);
        Check.townFault("= a;", 2, 0);
        Check.townFault("person a;person a;", 3, 16);
        Check.townFault("person a;oven a;", 3, 14);
        Check.townFault("person a;loaf l by b on 1 slices 1 flour 1;", 3, 19);
        Check.townFault("oven o;loaf l by o on 1 slices 1 flour 1;", 3, 17);
        Check.townFault("person a;loaf l by l on 1 slices 1 flour 1;", 3, 19);
        Check.townFault("person a;loaf l by a in a on 1 slices 1 flour 1;", 3, 24);
        Check.townFault("person a purse 1000;", 4, 15);
        Check.townFault("oven o rain 17;", 4, 12);
        Check.townFault("person a;loaf l by a on 100 slices 1 flour 1;", 4, 24);
        Check.townFault("person a;loaf l by a on 99 slices 0 flour 1;", 4, 34);
        Check.townFault("person a;loaf l by a on 99 slices 100 flour 1;", 4, 34);
        Check.townFault("person a;loaf l by a on 9 slices 1 flour 1000;", 4, 41);
        Check.townFault(FOLK + "promise 0 of rye from ann to bob;", 4, FOLK.length() + 8);
        Check.townFault(FOLK + "promise 100 of rye from ann to bob;", 4, FOLK.length() + 8);
        Check.townFault(FOLK + "promise 9 of hot from ann to bob;", 3, FOLK.length() + 13);
        Check.townFault(FOLK + "promise 9 of rye from ann to ann;", 5, FOLK.length() + 29);
        Check.townFault(FOLK + "promise 9 of rye from ann to hot;", 3, FOLK.length() + 29);
        Check.townFault(FOLK + "promise 9 of rye from ann to bob for 1000;", 4, FOLK.length() + 37);
        Check.townFault(FOLK + "promise 9 of rye from ann to bob for;", 2, FOLK.length() + 36);
    }

    private static String rows(String one, int many) {
        StringBuilder text = new StringBuilder();
        for (int i = 0; i < many; i++) {
            text.append(one.replace('#', (char) ('a' + i)));
        }
        return text.toString();
    }

    private static void oneTooMany() {
        String people = rows("person p#;", 8);
        Check.townFault(people + "person !", 6, 80);
        Check.townFault(people + " persons a", 2, 81);
        Check.fine(Check.of(people), "town", 0, 0);
        Check.townFault(rows("oven o#;", 5), 6, 32);
        String loaves = people + rows("loaf l# by pa on 1 slices 1 flour 1;", 8);
        Check.due("many(2)", Check.of(loaves).many(2), 8);
        Check.townFault(loaves + "loaf pa", 6, loaves.length());
        String promises = FOLK + rows("promise 1 of rye from ann to bob;", 16);
        Check.due("many(3)", Check.of(promises).many(3), 16);
        Check.townFault(promises + "promise", 6, promises.length());
    }

    private static void daysTaken() {
        PaperBread x = Check.of(FOLK);
        Check.none(x, "days(-1)", x.days(-1), 5);
        Check.none(x, "days(1)", x.days(1), 5);
        Check.fine(x, "days", Check.days(x, "loop 2; when day < 5; wait 1; end; end; stop;"), 4);
        Check.due("fault(0)", x.fault(0), 0);
        Check.fine(x, "live(0)", x.live(0), 6);
        Check.none(x, "days", Check.days(x, "wait 0;"), 10);
        Check.due("fault(0)", x.fault(0), 4);
        Check.due("fault(1)", x.fault(1), 5);
        Check.none(x, "the tape is empty", x.days(1), 5);
        Check.fine(x, "the old ones stay", x.live(0), 6);
        for (int i = 0; i < 16; i++) {
            x.feed(538976288, 538976288, 538976288, 538976288, 538976288);
        }
        Check.none(x, "days(301)", x.days(301), 5);
        Check.fine(x, "days(300)", x.days(300), 0);
        Check.fine(x, "an empty text is a text", x.live(0), 0);
    }

    private static void daysFaults() {
        Check.daysFault(FOLK, "wait 1; ?", 1, 8);
        Check.daysFault(FOLK, "wait 10000;", 1, 5);
        Check.daysFault(FOLK, "person cid;", 2, 0);
        Check.daysFault(FOLK, "end;", 2, 0);
        Check.daysFault(FOLK, "loop 2; wait 1; end; end;", 2, 21);
        Check.daysFault(FOLK, "loop 2; wait 1;  ", 2, 17);
        Check.daysFault(FOLK, "loop 2; wait 1; end", 2, 19);
        Check.daysFault(FOLK, "stop", 2, 4);
        Check.daysFault(FOLK, "when ann; end;", 2, 5);
        Check.daysFault(FOLK, "when day 3; end;", 2, 9);
        Check.daysFault(FOLK, "when day ; 3; end;", 2, 9);
        Check.daysFault(FOLK, "when has ann = bob; end;", 2, 15);
        Check.daysFault(FOLK, "when baked rye = 1; end;", 2, 15);
        Check.daysFault(FOLK, "eat loop 3;", 2, 4);
        Check.daysFault(FOLK, "bake abcdefghi;", 2, 5);
        Check.daysFault(FOLK, "bake hot;", 3, 5);
        Check.daysFault(FOLK, "eat cid 3;", 3, 4);
        Check.daysFault(FOLK, "pay ann rye 3;", 3, 8);
        Check.daysFault(FOLK, "when has hot > 3; end;", 3, 9);
        Check.daysFault(FOLK, "when baked hot; end;", 3, 11);
        Check.daysFault(FOLK, "when wet rye; end;", 3, 9);
        Check.daysFault(FOLK, "wait 10;", 4, 5);
        Check.daysFault(FOLK, "break 40;", 4, 6);
        Check.daysFault(FOLK, "eat ann 0;", 4, 8);
        Check.daysFault(FOLK, "eat ann 100;", 4, 8);
        Check.daysFault(FOLK, "pay ann bob 0;", 4, 12);
        Check.daysFault(FOLK, "pay ann bob 1000;", 4, 12);
        Check.daysFault(FOLK, "loop 0; end;", 4, 5);
        Check.daysFault(FOLK, "loop 100; end;", 4, 5);
        Check.daysFault(FOLK, "when day = 100; end;", 4, 11);
        Check.daysFault(FOLK, "when has ann = 1000; end;", 4, 15);
        Check.daysFault(FOLK, "promise 0 of rye from ann to bob;", 4, 8);
        Check.daysFault(FOLK, "promise 1 of rye from bob to bob;", 5, 29);
        String thirty = rows("stop;", 30);
        Check.daysFault(FOLK, thirty + "stop;", 6, 150);
        Check.daysFault(FOLK, thirty + "person", 2, 150);
        Check.daysFault(FOLK, thirty + "end;", 2, 150);
        Check.daysFault(FOLK, "loop 2;loop 2;loop 2;loop 2;", 7, 21);
        Check.daysFault(FOLK, "loop 2;when wet hot;loop 2;stop;when", 7, 32);
        String deep = "loop 2;loop 2;loop 2;";
        Check.daysFault(FOLK, deep + rows("stop;", 27) + "loop", 6, 156);
        Check.due("30 STEPS", Check.days(Check.of(FOLK), deep + rows("stop;", 27) + "end;end;end;"), 30);
        Check.due("30 blocks", Check.days(Check.of(FOLK), rows("loop 2;end;", 27)), 27);
        Check.due("what may be", Check.days(Check.of(FOLK), "when has ann<999;when day>99;when wet hot;"
                + "end;end;end;break 39;break 0;loop 99;end;pay ann ann 999;eat bob 99;"), 8);
        Check.due("the least that may be", Check.days(Check.of(FOLK), "when has ann=0;when day=0;end;end;"
                + "loop 1;end;pay ann bob 1;eat bob 1;wait 1;promise 1 of rye from ann to bob for 0;"), 7);
        Check.due("of a TOWN, too", Check.town(new PaperBread(), "person a purse 0;person b;oven o rain 0;"
                + "loaf l by a in o on 0 slices 1 flour 0;promise 1 of l from a to b for 0;"), 1);
    }

    private static void whatATownHas() {
        PaperBread x = Check.of("person ann purse 20;person bob;oven hot rain 8;oven old;"
                + "loaf rye by bob in old on 2 slices 10 flour 30;loaf ink by ann on 3 slices 5 flour 0;"
                + "promise 6 of rye from bob to ann for 7;promise 9 of ink from ann to bob;");
        int[] many = {2, 2, 2, 2, 0, 0, 0};
        for (int what = 0; what < 7; what++) {
            Check.fine(x, "many(" + what + ")", x.many(what), many[what]);
        }
        Check.none(x, "many(-1)", x.many(-1), 5);
        Check.none(x, "many(7)", x.many(7), 5);
        Check.fine(x, "person(0, 0)", x.person(0, 0), 13);
        Check.fine(x, "person(1, 0)", x.person(1, 0), 7);
        Check.none(x, "person(2, 3)", x.person(2, 3), 2);
        Check.none(x, "person(-1, 0)", x.person(-1, 0), 2);
        Check.none(x, "person(0, 3)", x.person(0, 3), 5);
        Check.none(x, "person(0, -1)", x.person(0, -1), 5);
        int[] rye = {1, 1, 2, 10, 30};
        for (int what = 0; what < 5; what++) {
            Check.fine(x, "loaf(0, " + what + ")", x.loaf(0, what), rye[what]);
        }
        Check.none(x, "loaf(0, 5)", x.loaf(0, 5), 8);
        Check.none(x, "loaf(1, 1)", x.loaf(1, 1), 8);
        Check.none(x, "loaf(0, 6)", x.loaf(0, 6), 5);
        Check.none(x, "loaf(2, 6)", x.loaf(2, 6), 2);
        int[] made = {6, 0, 1, 0, 7, 0};
        for (int what = 0; what < 6; what++) {
            Check.fine(x, "promise(0, " + what + ")", x.promise(0, what), made[what]);
        }
        Check.none(x, "promise(2, 0)", x.promise(2, 0), 2);
        Check.none(x, "promise(0, 6)", x.promise(0, 6), 5);
        x.letGo(1);
        Check.fine(x, "promise(1, 5)", x.promise(1, 5), 1);
        Check.fine(x, "promise(1, 0)", x.promise(1, 0), 9);
        Check.fine(x, "many(3)", x.many(3), 2);
        x.pass(2);
        x.bake(0);
        Check.fine(x, "loaf(0, 5)", x.loaf(0, 5), 10);
        Check.fine(x, "person(0, 1)", x.person(0, 1), 6);
        Check.fine(x, "many(5)", x.many(5), 1);
        Check.fine(x, "many(4)", x.many(4), 2);
    }

    public static void main(String[] args) {
        feed();
        order();
        townTaken();
        tokens();
        townFaults();
        oneTooMany();
        daysTaken();
        daysFaults();
        whatATownHas();
        Check.end();
    }
}
