import java.util.ArrayList;
import java.util.List;
import java.util.function.Supplier;

/** The sentences of promises 9, 10, 12 to 16 and of the TOWN as a TEXT, one test each. */
public final class EdgesTownTest {
    private static final int MIN = Edges.MIN;
    private static final int MAX = Edges.MAX;
    private static final String[] KEYWORDS = {"person", "purse", "oven", "rain", "loaf", "by", "in", "on",
        "slices", "flour", "promise", "of", "from", "to", "for", "bake", "wait", "eat", "pay", "break",
        "when", "day", "has", "baked", "wet", "loop", "end", "stop"};
    private static final String FOLK = "person ann;person bob;oven hot;"
            + "loaf rye by ann in hot on 1 slices 4 flour 2;";
    private static final int BLANKS = 0x20202020;

    /** One PART many times, with # for the letters a, b .. */
    private static String rows(String one, int many) {
        StringBuilder text = new StringBuilder();
        for (int i = 0; i < many; i++) {
            text.append(one.replace('#', (char) ('a' + i)));
        }
        return text.toString();
    }

    private static void taken(String text, int loaves) {
        PaperBread x = new PaperBread();
        Check.fine(x, "town of " + text, Check.town(x, text), loaves);
    }

    /** A TOKEN is lacking, or another one stands there: what is told is its place. */
    private static void shape(String ahead, int loaves, String... tokens) {
        taken(ahead + String.join(" ", tokens), loaves);
        StringBuilder text = new StringBuilder(ahead);
        for (int i = 0; i < tokens.length; i++) {
            int place = text.length();
            if (i > 0) {
                Edges.townFault(text.toString().stripTrailing(), 2, text.toString().stripTrailing().length());
            }
            Edges.townFault(text + "= ;", 2, place);
            Edges.townFault(text + "stop ;", 2, place);
            Edges.townFault(text + "! ;", 1, place);
            Edges.townFault(leftOut(ahead, i, tokens), 2, leftOutPlace(ahead, i, tokens));
            text.append(tokens[i]).append(" ");
        }
    }

    /** All TOKENS but for one. */
    private static String leftOut(String ahead, int without, String... tokens) {
        List<String> rest = new ArrayList<>(List.of(tokens));
        rest.remove(without);
        return ahead + String.join(" ", rest);
    }

    /** Where the TOKEN stands that comes in its place, or the end. */
    private static int leftOutPlace(String ahead, int without, String... tokens) {
        String upTo = ahead + String.join(" ", List.of(tokens).subList(0, without));
        boolean last = without == tokens.length - 1;
        return upTo.length() + (without == 0 || last ? 0 : 1);
    }

    // ---- Terms: the TEXT and its TOKENS

    @Sentence(in = "==== 1.", says = "A TOWN is a TEXT of at most 900 bytes.")
    private static void t1_atMost900Bytes() {
        StringBuilder text = new StringBuilder(FOLK);
        while (text.length() < 899 - "promise 2 of rye from ann to bob".length()) {
            text.append(' ');
        }
        text.append("promise 2 of rye from ann to bob;");
        Check.due("its length", text.length(), 900);
        PaperBread x = new PaperBread();
        Check.fine(x, "town(900)", Check.town(x, text.toString()), 1);
        Check.fine(x, "many(3): the last byte is read, too", x.many(3), 1);
        PaperBread y = new PaperBread();
        Check.feed(y, text.toString());
        Check.none(y, "town(899)", y.town(899), 10);
        Check.due("fault(1): the text's length", y.fault(1), 899);
        for (String end : new String[] {"person a purse 7", "person a", "person", "person a purse"}) {
            Edges.townFault(" ".repeat(900 - end.length()) + end, 2, 900);
        }
        Edges.townFault(" ".repeat(899) + "!", 1, 899);
        Edges.refused("town(901)", () -> {
            PaperBread z = Edges.blank();
            Check.feed(z, text.toString());
            return z;
        }, z -> z.town(901), 5);
    }

    @Sentence(in = "==== 1.", says = "TOKENS, as long as they go,")
    private static void t1_asLongAsTheyGo() {
        taken("person ann purse20;oven hot rain0016;loaf rye by ann in hot on1 slices 2 flour3;", 1);
        Edges.townFault("personann;", 2, 0);
        Edges.townFault("person annpurse 2;", 2, 16);
        Edges.townFault("person an n;", 2, 10);
        Edges.townFault("person ann purse 2 0;", 2, 19);
        Edges.townFault("person ann purse 2000 0;", 4, 17);
        Edges.townFault("person ann purse 20000;", 1, 17);
    }

    /** Every byte there is between person and a; */
    @Sentence(in = "==== 1.", says = "between them blanks (10, 32):")
    private static void t1_blanksAre10And32() {
        for (int b = 0; b < 256; b++) {
            PaperBread x = new PaperBread();
            int answer = Check.town(x, "person" + (char) b + "a;");
            boolean letter = b >= 'a' && b <= 'z';
            boolean stands = letter || b >= '0' && b <= '9' || b == ';' || b == '<' || b == '>' || b == '=';
            if (b == 10 || b == 32) {
                Check.fine(x, "byte " + b + " is a blank", answer, 0);
            } else {
                Check.none(x, "byte " + b + " is no blank", answer, 10);
                Check.due("byte " + b + ": fault(0)", x.fault(0), stands ? 2 : 1);
                Check.due("byte " + b + ": fault(1)", x.fault(1), letter ? 0 : 6);
            }
        }
        taken("\n\n  person\n\n a \n ; \n", 0);
    }

    @Sentence(in = "==== 1.", says = "WORDS (small letters)")
    private static void t1_wordsOfSmallLetters() {
        for (char c = 'a'; c <= 'z'; c++) {
            taken("person " + c + ";", 0);
        }
        for (String no : new String[] {"A", "Z", "`", "{", "@", "[", "\u00e0", "\u00ff"}) {
            Edges.townFault("person " + no + ";", 1, 7);
            Edges.townFault("person x" + no + ";", 1, 8);
        }
    }

    @Sentence(in = "==== 1.", says = "NUMBERS (1 to 4 digits)")
    private static void t1_numbersOf1To4Digits() {
        String[] numbers = {"7", "07", "007", "0007"};
        for (String number : numbers) {
            PaperBread x = Check.of("person a purse " + number + ";");
            Check.fine(x, "purse " + number, x.person(0, 0), 7);
        }
        Edges.townFault("person a purse 00007;", 1, 15);
        Edges.townFault("person a purse /;", 1, 15);
        Edges.townFault("person a purse :;", 1, 15);
        Edges.townFault("person a purse -1;", 1, 15);
        for (int digit = 0; digit < 10; digit++) {
            PaperBread x = Check.of("person a purse " + digit + ";");
            Check.fine(x, "purse " + digit, x.person(0, 0), digit);
        }
    }

    @Sentence(in = "==== 1.", says = "SIGNS ; < > =")
    private static void t1_signs() {
        for (String sign : new String[] {";", "<", ">", "="}) {
            Edges.townFault("person a;" + sign, 2, 9);
        }
        for (String no : new String[] {":", "?", ",", ".", "!", "\u0000"}) {
            Edges.townFault("person a;" + no, 1, 9);
        }
    }

    @Sentence(in = "==== 1.", says = "TOWN: {PART}.")
    private static void t1_noPartAtAll() {
        PaperBread x = Edges.blank();
        Check.fine(x, "town(0)", x.town(0), 0);
        for (int what = 0; what < 7; what++) {
            Check.fine(x, "many(" + what + ")", x.many(what), 0);
        }
        taken(" \n ", 0);
        Edges.townFault("stop;", 2, 0);
        Edges.townFault("ann;", 2, 0);
    }

    @Sentence(in = "==== 1.", says = "PART: person NAME [purse NUMBER] ;")
    private static void t1_partPerson() {
        shape("", 0, "person", "ann", "purse", "3", ";");
        shape("", 0, "person", "ann", ";");
    }

    @Sentence(in = "==== 1.", says = "or oven NAME [rain NUMBER] ;")
    private static void t1_partOven() {
        shape("", 0, "oven", "hot", "rain", "3", ";");
        shape("", 0, "oven", "hot", ";");
    }

    @Sentence(in = "==== 1.", says = "or loaf NAME by NAME [in NAME] on NUMBER slices NUMBER flour NUMBER ;")
    private static void t1_partLoaf() {
        shape("person a;oven o;", 1,
                "loaf", "l", "by", "a", "in", "o", "on", "1", "slices", "2", "flour", "3", ";");
        shape("person a;", 1, "loaf", "l", "by", "a", "on", "1", "slices", "2", "flour", "3", ";");
    }

    @Sentence(in = "==== 1.", says = "or promise NUMBER of NAME from NAME to NAME [for NUMBER] ;")
    private static void t1_partPromise() {
        shape(FOLK, 1, "promise", "1", "of", "rye", "from", "ann", "to", "bob", "for", "3", ";");
        shape(FOLK, 1, "promise", "1", "of", "rye", "from", "ann", "to", "bob", ";");
    }

    @Sentence(in = "==== 1.", says = "({ } any number of times, [ ] perhaps.)")
    private static void t1_perhapsOnceAlone() {
        Edges.townFault("person a purse 1 purse 2;", 2, 17);
        Edges.townFault("oven o rain 1 rain 2;", 2, 14);
        Edges.townFault(FOLK + "promise 1 of rye from ann to bob for 1 for 2;", 2, FOLK.length() + 39);
        Edges.townFault("person a;oven o;loaf l by a in o in o on 1 slices 1 flour 1;", 2, 33);
    }

    @Sentence(in = "==== 1.", says = "NAME: a WORD of 1 to 8 letters")
    private static void t1_nameOf1To8Letters() {
        taken("person a;", 0);
        taken("person abcdefgh;person abcdefg;person abcdefgi;oven bbcdefgh;", 0);
        taken("person zzzzzzzz;loaf z by zzzzzzzz on 0 slices 1 flour 0;", 1);
        Edges.townFault("person abcdefghi;", 2, 7);
        Edges.townFault("person abcdefghijklmnopqrstuvwxyzabcdefgh;", 2, 7);
        Edges.townFault("person abcdefgh;loaf l by abcdefghi on 0 slices 1 flour 0;", 2, 26);
    }

    @Sentence(in = "==== 1.", says = "that is none of person, purse, oven, rain, loaf, by, in, on, slices, flour, promise, of, from, to, for, "
            + "bake, wait, eat, pay, break, when, day, has, baked, wet, loop, end, stop.")
    private static void t1_nameIsNoneOfThese() {
        Check.due("WORDS", KEYWORDS.length, 28);
        for (String word : KEYWORDS) {
            Edges.townFault("person " + word + ";", 2, 7);
            Edges.townFault("oven " + word + ";", 2, 5);
            Edges.townFault("person a;loaf l by " + word + " on 1 slices 1 flour 1;", 2, 19);
            if (word.length() < 8) {
                taken("person " + word + "x;", 0);
                taken("person x" + word + ";", 0);
            }
        }
    }

    @Sentence(in = "==== 1.", says = "One NAME is of one thing alone.")
    private static void t1_oneNameOneThing() {
        String[] things = {"person #;", "oven #;", "loaf # by x on 1 slices 1 flour 1;"};
        for (String one : things) {
            for (String other : things) {
                String ahead = "person x;" + one.replace("#", "same");
                int place = ahead.length() + other.indexOf('#');
                Edges.townFault(ahead + other.replace("#", "same"), 3, place);
            }
        }
        taken("person x;oven y;loaf z by x in y on 1 slices 1 flour 1;", 1);
    }

    // ---- Terms: how many, how much

    @Sentence(in = "==== 1.", says = "PEOPLE, at most 8, each with a PURSE (0 to 999; 0 without).")
    private static void t1_peopleAtMost8Purse0To999() {
        PaperBread x = Check.of("person a purse 0;person b purse 999;person c;" + rows("person p#;", 5));
        Check.fine(x, "many(0)", x.many(0), 8);
        Check.fine(x, "person(0, 0)", x.person(0, 0), 0);
        Check.fine(x, "person(1, 0)", x.person(1, 0), 999);
        Check.fine(x, "person(2, 0) without", x.person(2, 0), 0);
        Check.none(x, "person(8, 0)", x.person(8, 0), 2);
        Edges.townFault("person a purse 1000;", 4, 15);
        Edges.townFault("person a purse 9999;", 4, 15);
        Edges.townFault(rows("person p#;", 9), 6, 80);
    }

    @Sentence(in = "==== 1.", says = "OVENS, at most 4: with how many sixteenths it RAINS on one on a day (0 to 16; 0 without).")
    private static void t1_ovensAtMost4Rain0To16() {
        PaperBread x = Check.of("person a;oven z rain 0;oven b rain 16;oven c;oven d rain 1;"
                + "loaf la by a in z on 0 slices 10 flour 0;loaf lb by a in b on 0 slices 10 flour 0;"
                + "loaf lc by a in c on 0 slices 10 flour 0;loaf ld by a in d on 0 slices 10 flour 0;");
        Check.fine(x, "many(1)", x.many(1), 4);
        Check.fraction(x, "rain 0: never", x.mean(0, 0, 0), 10, 1);
        Check.fraction(x, "rain 16: always", x.mean(0, 1, 0), 5, 1);
        Check.fraction(x, "without: never", x.mean(0, 2, 0), 10, 1);
        Check.fraction(x, "rain 1: (15 * 10 + 5) / 16", x.mean(0, 3, 0), 155, 16);
        Edges.townFault("oven o rain 17;", 4, 12);
        Edges.townFault(rows("oven o#;", 5), 6, 32);
    }

    @Sentence(in = "==== 1.", says = "LOAVES, at most 8, each BY a person (its BAKER), IN an OVEN, or in none (it is of PAPER),")
    private static void t1_loavesAtMost8() {
        String eight = "person a;oven o;" + rows("loaf l# by a in o on 1 slices 1 flour 1;", 7)
                + "loaf last by a on 1 slices 1 flour 1;";
        PaperBread x = Check.of(eight);
        Check.fine(x, "many(2)", x.many(2), 8);
        Check.fine(x, "loaf(0, 0): its BAKER", x.loaf(0, 0), 0);
        Check.fine(x, "loaf(6, 1): its OVEN", x.loaf(6, 1), 0);
        Check.none(x, "loaf(7, 1): of PAPER", x.loaf(7, 1), 8);
        Check.none(x, "loaf(8, 0)", x.loaf(8, 0), 2);
        Edges.townFault(eight + "loaf more by a on 1 slices 1 flour 1;", 6, eight.length());
    }

    private static String loaf(int day, int slices, int flour) {
        return "person a;loaf l by a on " + day + " slices " + slices + " flour " + flour + ";";
    }

    @Sentence(in = "==== 1.", says = "ON a DAY (0 to 99)")
    private static void t1_loafOnDay0To99() {
        Check.due("loaf(0, 2)", Check.of(loaf(0, 1, 1)).loaf(0, 2), 0);
        Check.due("loaf(0, 2)", Check.of(loaf(99, 1, 1)).loaf(0, 2), 99);
        Edges.townFault(loaf(100, 1, 1), 4, 24);
    }

    @Sentence(in = "==== 1.", says = "of so many SLICES (1 to 99), with FLOUR")
    private static void t1_loafOf1To99Slices() {
        Check.due("loaf(0, 3)", Check.of(loaf(1, 1, 1)).loaf(0, 3), 1);
        Check.due("loaf(0, 3)", Check.of(loaf(1, 99, 1)).loaf(0, 3), 99);
        Edges.townFault(loaf(1, 0, 1), 4, 33);
        Edges.townFault(loaf(1, 100, 1), 4, 33);
    }

    @Sentence(in = "==== 1.", says = "with FLOUR (0 to 999).")
    private static void t1_loafWithFlour0To999() {
        Check.due("loaf(0, 4)", Check.of(loaf(1, 1, 0)).loaf(0, 4), 0);
        Check.due("loaf(0, 4)", Check.of(loaf(1, 1, 999)).loaf(0, 4), 999);
        Edges.townFault(loaf(1, 1, 1000), 4, 41);
    }

    @Sentence(in = "==== 1.", says = "PROMISES, at most 16: so many SLICES (1 to 99) of a LOAF")
    private static void t1_promisesAtMost16Slices1To99() {
        String sixteen = FOLK + "promise 1 of rye from ann to bob;promise 99 of rye from ann to bob;"
                + rows("promise 2 of rye from ann to bob;", 14);
        PaperBread x = Check.of(sixteen);
        Check.fine(x, "many(3)", x.many(3), 16);
        Check.fine(x, "promise(0, 0)", x.promise(0, 0), 1);
        Check.fine(x, "promise(1, 0)", x.promise(1, 0), 99);
        Check.none(x, "promise(16, 0)", x.promise(16, 0), 2);
        Edges.townFault(sixteen + "promise 1 of rye from ann to bob;", 6, sixteen.length());
        Edges.townFault(FOLK + "promise 0 of rye from ann to bob;", 4, FOLK.length() + 8);
        Edges.townFault(FOLK + "promise 100 of rye from ann to bob;", 4, FOLK.length() + 8);
    }

    @Sentence(in = "==== 1.", says = "from a person to another one (not the same)")
    private static void t1_promiseToAnother() {
        taken(FOLK + "promise 1 of rye from bob to ann;", 1);
        Edges.townFault(FOLK + "promise 1 of rye from bob to bob;", 5, FOLK.length() + 29);
    }

    @Sentence(in = "==== 1.", says = "FOR a price (0 to 999; 0 without).")
    private static void t1_promiseForAPrice0To999() {
        PaperBread x = Check.of(FOLK + "promise 1 of rye from ann to bob for 0;"
                + "promise 1 of rye from ann to bob for 999;promise 1 of rye from ann to bob;");
        Check.fine(x, "promise(0, 4)", x.promise(0, 4), 0);
        Check.fine(x, "promise(1, 4)", x.promise(1, 4), 999);
        Check.fine(x, "promise(2, 4) without", x.promise(2, 4), 0);
        Check.fine(x, "person(0, 0)", x.person(0, 0), 999);
        Check.fine(x, "person(1, 0)", x.person(1, 0), -999);
        Edges.townFault(FOLK + "promise 1 of rye from ann to bob for 1000;", 4, FOLK.length() + 37);
    }

    @Sentence(in = "==== 1.", says = "All are numbered as they stand;")
    private static void t1_numberedAsTheyStand() {
        PaperBread x = Check.of("oven p;person a purse 1;loaf m by a on 3 slices 1 flour 0;oven o;"
                + "person b purse 2;promise 4 of m from b to a;loaf l by b in o on 5 slices 1 flour 0;"
                + "promise 5 of l from a to b;");
        Check.fine(x, "person(0, 0)", x.person(0, 0), 1);
        Check.fine(x, "person(1, 0)", x.person(1, 0), 2);
        Check.fine(x, "loaf(0, 2)", x.loaf(0, 2), 3);
        Check.fine(x, "loaf(1, 1)", x.loaf(1, 1), 1);
        Check.fine(x, "promise(0, 1)", x.promise(0, 1), 0);
        Check.fine(x, "promise(1, 0)", x.promise(1, 0), 5);
    }

    @Sentence(in = "==== 1.", says = "what a PART names must be told ahead.")
    private static void t1_toldAhead() {
        String loaf = "loaf l by a in o on 1 slices 1 flour 1;";
        Edges.townFault("oven o;" + loaf + "person a;", 3, 17);
        Edges.townFault("person a;" + loaf + "oven o;", 3, 24);
        Edges.townFault("person a;loaf l by l on 1 slices 1 flour 1;", 3, 19);
        Edges.townFault("person a;person b;promise 1 of l from a to b;oven o;" + loaf, 3, 31);
        Edges.townFault("person a;oven o;" + loaf + "promise 1 of l from a to b;person b;", 3, 80);
        Edges.townFault("person a;oven o;" + loaf + "promise 1 of l from b to a;person b;", 3, 75);
    }

    // ---- Terms: FAULTS

    @Sentence(in = "==== 1.", says = "FAULTS, the first along the text (of one TOKEN the least kind):")
    private static void t1_theFirstAlongTheText() {
        Edges.townFault("person a purse 1000;!", 4, 15);
        Edges.townFault("person a;person a;person", 3, 16);
        Edges.townFault("person a ! purse 1000;", 1, 9);
        Edges.townFault("= !", 2, 0);
        Edges.townFault("! =", 1, 0);
        Edges.townFault(rows("person p#;", 8) + "person pa !", 6, 80);
        Edges.townFault(FOLK + "promise 100 of xxx from ann to ann;", 4, FOLK.length() + 8);
        Edges.townFault(FOLK + "promise 10 of rye from xxx to xxx;", 3, FOLK.length() + 23);
    }

    @Sentence(in = "==== 1.", says = "1 no TOKEN begins so (a NUMBER of 5 digits and more: at its first).")
    private static void t1_fault1() {
        Edges.townFault("person a purse 12345;", 1, 15);
        Edges.townFault("person a purse 123456789012345678901234567890;", 1, 15);
        Edges.townFault("00000", 1, 0);
        Edges.townFault("\u0000", 1, 0);
        Edges.townFault("person a;\r", 1, 9);
        Edges.townFault("person a;\t", 1, 9);
    }

    @Sentence(in = "==== 1.", says = "2 it can't stand there (the end: the text's length; a WORD of 9 letters and more where a NAME must stand).")
    private static void t1_fault2() {
        Edges.townFault("person", 2, 6);
        Edges.townFault("person a  \n ", 2, 12);
        Edges.townFault("person abcdefghi;", 2, 7);
        Edges.townFault("person a;loaf abcdefghi by a on 1 slices 1 flour 1;", 2, 14);
        Edges.townFault("person a;loaf l by aaaaaaaaa on 1 slices 1 flour 1;", 2, 19);
        Edges.townFault("person a;loaf l by a in aaaaaaaaa on 1 slices 1 flour 1;", 2, 24);
        Edges.townFault("abcdefghi;", 2, 0);
    }

    /** The end of a text is where n says, not where the tape ends. */
    @Sentence(in = "==== 1.", says = "(the end: the text's length;")
    private static void t1_theEndIsTheTextsLength() {
        PaperBread x = new PaperBread();
        Check.feed(x, "person a;           ");
        Check.none(x, "town(8)", x.town(8), 10);
        Check.due("fault(0)", x.fault(0), 2);
        Check.due("fault(1)", x.fault(1), 8);
    }

    @Sentence(in = "==== 1.", says = "3 a new NAME that is taken; a NAME that is no such thing told ahead.")
    private static void t1_fault3() {
        Edges.townFault("person a;person a;", 3, 16);
        Edges.townFault("person a;loaf l by b on 1 slices 1 flour 1;", 3, 19);
        Edges.townFault("oven o;loaf l by o on 1 slices 1 flour 1;", 3, 17);
        Edges.townFault("person a;loaf l by a in a on 1 slices 1 flour 1;", 3, 24);
        Edges.townFault(FOLK + "promise 1 of ann from ann to bob;", 3, FOLK.length() + 13);
        Edges.townFault(FOLK + "promise 1 of rye from rye to bob;", 3, FOLK.length() + 22);
        Edges.townFault(FOLK + "promise 1 of rye from ann to hot;", 3, FOLK.length() + 29);
        Edges.townFault(FOLK + "promise 1 of rye from ann to an;", 3, FOLK.length() + 29);
        Edges.townFault(FOLK + "promise 1 of rye from ann to bobb;", 3, FOLK.length() + 29);
    }

    @Sentence(in = "==== 1.", says = "4 a NUMBER that can't be.")
    private static void t1_fault4() {
        Edges.townFault("person a purse 1000;", 4, 15);
        Edges.townFault("oven o rain 0017;", 4, 12);
        Edges.townFault(loaf(100, 1, 1), 4, 24);
        Edges.townFault(loaf(1, 0, 1), 4, 33);
        Edges.townFault(loaf(1, 1, 1000), 4, 41);
        Edges.townFault(FOLK + "promise 0000 of rye from ann to bob;", 4, FOLK.length() + 8);
    }

    @Sentence(in = "==== 1.", says = "5 a PROMISE to whom it is from (at the second NAME).")
    private static void t1_fault5() {
        Edges.townFault(FOLK + "promise 1 of rye from ann to ann;", 5, FOLK.length() + 29);
        Edges.townFault(FOLK + "promise 1 of rye from ann to ann for 1000;", 5, FOLK.length() + 29);
    }

    /** At the WORD itself: what stands behind it is not looked at. */
    @Sentence(in = "==== 1.", says = "6 one more person, oven, loaf, promise than there may be (at that WORD).")
    private static void t1_fault6() {
        String people = rows("person p#;", 8);
        String ovens = rows("oven o#;", 4);
        String loaves = "person a;" + rows("loaf l# by a on 1 slices 1 flour 1;", 8);
        String promises = FOLK + rows("promise 1 of rye from ann to bob;", 16);
        Edges.townFault(people + " person", 6, people.length() + 1);
        Edges.townFault(ovens + "\noven !", 6, ovens.length() + 1);
        Edges.townFault(loaves + "loaf a", 6, loaves.length());
        Edges.townFault(promises + "promise 100", 6, promises.length());
        taken(people + ovens, 0);
        taken(loaves, 8);
        taken(promises, 1);
    }

    @Sentence(in = "==== 1.", says = "A TOWN that is taken is there in place of that ahead;")
    private static void t1_inPlaceOfThatAhead() {
        PaperBread x = Edges.blank();
        Check.fine(x, "town", Check.town(x, "person zed purse 7;"), 0);
        int[] due = {1, 0, 0, 0, 0, 0, 0};
        for (int what = 0; what < 7; what++) {
            Check.fine(x, "many(" + what + ")", x.many(what), due[what]);
        }
        Check.fine(x, "person(0, 0)", x.person(0, 0), 7);
        Check.fine(x, "person(0, 1): no SLICES of ann", x.person(0, 1), 0);
        Check.fine(x, "person(0, 2): no FACE of ann", x.person(0, 2), 0);
        Check.none(x, "person(1, 0)", x.person(1, 0), 2);
        Check.none(x, "NAMES of old are gone", Check.days(x, "eat ann 1;"), 10);
        Check.due("fault(0)", x.fault(0), 3);
        PaperBread y = Edges.blank();
        Check.days(y, "wait 1;bake rye;break 0;");
        y.odds(0, 1, 0, 1);
        y.live(0);
        Check.fine(y, "person(1, 2) ahead", y.person(1, 2), 2);
        Check.fine(y, "the same TOWN anew", Check.town(y, Edges.TOWN), 4);
        for (int promise = 0; promise < 5; promise++) {
            Check.fine(y, "promise(" + promise + ", 5): not let go", y.promise(promise, 5), 0);
        }
        for (int loaf = 0; loaf < 4; loaf++) {
            Check.none(y, "loaf(" + loaf + ", 5): not BAKED", y.loaf(loaf, 5), 8);
        }
        int[] purse = {24, -1, 2};
        for (int person = 0; person < 3; person++) {
            Check.fine(y, "person(" + person + ", 0)", y.person(person, 0), purse[person]);
            Check.fine(y, "person(" + person + ", 1)", y.person(person, 1), 0);
            Check.fine(y, "person(" + person + ", 2)", y.person(person, 2), 0);
        }
    }

    @Sentence(in = "==== 1.", says = "it is DAY 0, nothing is BAKED, there are no DAYS' TEXT.")
    private static void t1_day0NothingBakedNoDays() {
        PaperBread x = Edges.blank();
        Check.fine(x, "many(4) ahead", x.many(4), 1);
        Check.fine(x, "many(6) ahead", x.many(6), 2);
        Check.town(x, Edges.TOWN);
        Check.fine(x, "many(4)", x.many(4), 0);
        Check.fine(x, "many(5)", x.many(5), 0);
        Check.fine(x, "many(6)", x.many(6), 0);
        Check.none(x, "live(0)", x.live(0), 8);
        Check.no(x, "odds(0, 1, 0, 1)", x.odds(0, 1, 0, 1), 8);
    }

    // ---- Promise 9

    @Sentence(in = "Promise 9", says = "Twenty bytes come behind those on the tape, the highest of each int first: how many it has;")
    private static void p09_highestFirst() {
        PaperBread x = new PaperBread();
        Check.due("feed", x.feed(0x70657273, 0x6f6e2061, 0x3b6f7665, 0x6e206f3b, 0x20706572), 20);
        Check.due("feed", x.feed(0x736f6e20, 0x623b2020, BLANKS, BLANKS, 0xff802021), 40);
        Check.fine(x, "town(36)", x.town(36), 0);
        Check.fine(x, "many(0)", x.many(0), 2);
        Check.fine(x, "many(1)", x.many(1), 1);
    }

    @Sentence(in = "Promise 9", says = "NONE if there would be more than 900.")
    private static void p09_noneAbove900() {
        Supplier<PaperBread> full = () -> {
            PaperBread x = Edges.blank();
            for (int i = 0; i < 45; i++) {
                x.feed(BLANKS, BLANKS, BLANKS, BLANKS, BLANKS);
            }
            return x;
        };
        PaperBread x = Edges.blank();
        for (int i = 1; i <= 45; i++) {
            Check.due("feed " + i, x.feed(BLANKS, BLANKS, BLANKS, BLANKS, BLANKS), 20 * i);
        }
        x.bake(3);
        Check.due("feed 46", x.feed(1, 2, 3, 4, 5), -1);
        Check.due("feed 47", x.feed(1, 2, 3, 4, 5), -1);
        Check.due("status() stays", x.status(), 9);
        Edges.unchangedBut("feed 46", full, y -> y.feed(1, 2, 3, 4, 5));
        Check.fine(x, "town(900)", x.town(900), 0);
        Check.due("there is room again", x.feed(1, 2, 3, 4, 5), 20);
    }

    // ---- Promise 10

    @Sentence(in = "Promise 10", says = "The first n bytes of the tape")
    private static void p10_theFirstNBytes() {
        PaperBread x = new PaperBread();
        Check.feed(x, "person abc;!!!!!");
        Check.fine(x, "town(11)", x.town(11), 0);
        Check.fine(x, "many(0)", x.many(0), 1);
        PaperBread y = new PaperBread();
        Check.feed(y, "person abc;person abc;");
        Check.none(y, "town(9) cuts a WORD", y.town(9), 10);
        Check.due("fault(1)", y.fault(1), 9);
        PaperBread z = new PaperBread();
        Check.feed(z, "person a purse 12345;");
        Check.none(z, "town(19) cuts a NUMBER", z.town(19), 10);
        Check.due("fault(0): 1234 is one", z.fault(0), 4);
        Check.due("fault(1)", z.fault(1), 15);
        Check.feed(z, "person a purse 12345;");
        Check.none(z, "town(18) cuts a NUMBER", z.town(18), 10);
        Check.due("fault(0): 123 is one", z.fault(0), 2);
        Check.due("fault(1): the text's length", z.fault(1), 18);
    }

    @Sentence(in = "Promise 10", says = "(which is empty then, but for 5)")
    private static void p10_emptyThenButFor5() {
        PaperBread x = Edges.rich();
        Check.fine(x, "town(0) takes none", x.town(0), 0);
        Check.due("the tape is empty with 0", x.feed(0, 0, 0, 0, 0), 20);
        PaperBread y = Edges.rich();
        Check.none(y, "town(3)", y.town(3), 10);
        Check.due("the tape is empty with 10", y.feed(0, 0, 0, 0, 0), 20);
        PaperBread z = Edges.rich();
        Check.none(z, "town(21)", z.town(21), 5);
        Check.none(z, "town(-1)", z.town(-1), 5);
        Check.fine(z, "the tape stays with 5", z.town(20), 0);
        Check.fine(z, "person(0, 0)", z.person(0, 0), 7);
    }

    @Sentence(in = "Promise 10", says = "are the TOWN: how many LOAVES")
    private static void p10_howManyLoaves() {
        taken("person a;", 0);
        taken(loaf(1, 1, 1), 1);
        taken("person a;" + rows("loaf l# by a on 1 slices 1 flour 1;", 8), 8);
    }

    @Sentence(in = "Promise 10", says = "(5;")
    private static void p10_5() {
        for (int n : new int[] {-1, MIN, 21, 901, MAX}) {
            Edges.refused("town(" + n + ")", x -> x.town(n), 5);
        }
        Edges.refused("town(1) of an empty tape", Edges::blank, x -> x.town(1), 5);
        PaperBread x = Edges.rich();
        Check.fine(x, "town(20), all of it", x.town(20), 0);
    }

    @Sentence(in = "Promise 10", says = "10: the old one stays)")
    private static void p10_10TheOldOneStays() {
        Edges.townFault("person ann purse 9;person bob;oven hot;loaf rye by bob on 4 slices 9 flour 9;stop;", 2, 77);
        Edges.townFault("person zed", 2, 10);
    }

    // ---- Promise 12

    @Sentence(in = "Promise 12", says = "Of the latest of these with STATUS 0 or 10,")
    private static void p12_latestWith0Or10() {
        PaperBread x = Edges.rich();
        x.town(99);
        x.days(99);
        Check.due("fault(0) behind 5", x.fault(0), 1);
        Check.due("fault(1) behind 5", x.fault(1), 7);
        x.days(3);
        Check.due("fault(0) behind 10 of days()", x.fault(0), 2);
        Check.due("fault(1) behind 10 of days()", x.fault(1), 0);
        x.days(0);
        Check.due("fault(0) behind 0 of days()", x.fault(0), 0);
        Check.town(x, "person a ?");
        Check.due("fault(0) behind 10 of town()", x.fault(0), 1);
        Check.due("fault(1) behind 10 of town()", x.fault(1), 9);
        x.town(0);
        Check.due("fault(0) behind 0 of town()", x.fault(0), 0);
    }

    @Sentence(in = "Promise 12", says = "what 0: the FAULT (0 without one), 1: its place (NONE without).")
    private static void p12_withoutOne() {
        PaperBread x = Check.of("person a;");
        Check.due("fault(0)", x.fault(0), 0);
        Check.due("fault(1)", x.fault(1), -1);
        Check.none(x, "town", Check.town(x, "!"), 10);
        Check.due("fault(0)", x.fault(0), 1);
        Check.due("fault(1): the first byte", x.fault(1), 0);
    }

    @Sentence(in = "Promise 12", says = "NONE for others, and ahead of any.")
    private static void p12_noneForOthersAndAheadOfAny() {
        PaperBread x = Edges.rich();
        for (int what : new int[] {-1, 2, MIN, MAX}) {
            Check.due("fault(" + what + ")", x.fault(what), -1);
        }
        PaperBread y = new PaperBread();
        y.town(1);
        y.days(-1);
        for (int what = -1; what < 3; what++) {
            Check.due("fault(" + what + ") ahead of any", y.fault(what), -1);
        }
    }

    // ---- Promises 13 to 16

    @Sentence(in = "Promise 13", says = "How many persons (what 0), OVENS (1), LOAVES (2),")
    private static void p13_whats0To2() {
        PaperBread x = Edges.rich();
        int[] due = {3, 2, 4};
        for (int what = 0; what < 3; what++) {
            Check.fine(x, "many(" + what + ")", x.many(what), due[what]);
        }
    }

    @Sentence(in = "Promise 13", says = "PROMISES (3: let go ones, too);")
    private static void p13_letGoOnesToo() {
        PaperBread x = Edges.rich();
        Check.fine(x, "many(3), one let go", x.many(3), 5);
        for (int promise = 0; promise < 4; promise++) {
            x.letGo(promise);
        }
        Check.fine(x, "many(3), all let go", x.many(3), 5);
    }

    @Sentence(in = "Promise 13", says = "the DAY (4);")
    private static void p13_theDay() {
        PaperBread x = new PaperBread();
        Check.fine(x, "many(4)", x.many(4), 0);
        for (int i = 0; i < 11; i++) {
            x.pass(9);
        }
        Check.fine(x, "many(4)", x.many(4), 99);
    }

    @Sentence(in = "Promise 13", says = "the sets of LOAVES that are BAKED (5), of OVENS that are WET today (6)")
    private static void p13_sets() {
        PaperBread x = Check.of("person a;oven o;oven p;oven q;oven r rain 16;"
                + rows("loaf l# by a in r on 1 slices 1 flour 1;", 8));
        Check.fine(x, "many(5): none", x.many(5), 0);
        Check.fine(x, "many(6): none", x.many(6), 0);
        Check.days(x, "wait 1;bake la;bake lh;");
        x.live(0);
        Check.fine(x, "many(5): the first and the eighth", x.many(5), 129);
        Check.fine(x, "many(6): the fourth", x.many(6), 8);
        x.pass(1);
        Check.fine(x, "many(5) stays", x.many(5), 129);
        Check.fine(x, "many(6): today", x.many(6), 0);
    }

    @Sentence(in = "Promise 13", says = "(5).")
    private static void p13_5() {
        for (int what : new int[] {-1, 7, MIN, MAX}) {
            Edges.refused("many(" + what + ")", x -> x.many(what), 5);
        }
    }

    private static final int[] NO_PERSONS = {-1, 3, 8, MIN, MAX};

    /** ann is at 24, bob at -1, cid at 2 once bob paid 2 for ink and 4 for rye. */
    @Sentence(in = "Promise 14", says = "Of a person, what 0: its PURSE (STATUS tells NONE)")
    private static void p14_statusTellsNone() {
        PaperBread x = Edges.rich();
        Check.fine(x, "person(0, 0)", x.person(0, 0), 24);
        Check.fine(x, "person(1, 0) is -1", x.person(1, 0), -1);
        Check.fine(x, "person(2, 0)", x.person(2, 0), 2);
        Check.none(x, "person(3, 0) is NONE", x.person(3, 0), 2);
    }

    /** All of oat came to bob by halves: 3; it ate 2. Of bun ann has 3. */
    @Sentence(in = "Promise 14", says = "1: SLICES of its own, 2: FACE lost")
    private static void p14_ownAndFace() {
        PaperBread x = Edges.rich();
        int[] own = {3, 1, 0};
        for (int p = 0; p < 3; p++) {
            Check.fine(x, "person(" + p + ", 1)", x.person(p, 1), own[p]);
            Check.fine(x, "person(" + p + ", 2)", x.person(p, 2), 0);
        }
        x.pass(1);
        x.bake(0);
        int[] face = {2, 2, 0};
        for (int p = 0; p < 3; p++) {
            Check.fine(x, "person(" + p + ", 2)", x.person(p, 2), face[p]);
        }
    }

    @Sentence(in = "Promise 14", says = "(2; 5).")
    private static void p14_refusals() {
        for (int p : NO_PERSONS) {
            Edges.refused("person(" + p + ", 0)", x -> x.person(p, 0), 2);
            Edges.refused("2 ahead of 5", x -> x.person(p, 3), 2);
        }
        for (int what : new int[] {-1, 3, MIN, MAX}) {
            Edges.refused("person(0, " + what + ")", x -> x.person(0, what), 5);
        }
    }

    @Sentence(in = "Promise 15", says = "Of a LOAF, what 0: its BAKER, 1: its OVEN")
    private static void p15_bakerAndOven() {
        PaperBread x = Edges.rich();
        Check.fine(x, "loaf(0, 0)", x.loaf(0, 0), 0);
        Check.fine(x, "loaf(2, 0)", x.loaf(2, 0), 2);
        Check.fine(x, "loaf(0, 1)", x.loaf(0, 1), 0);
        Check.fine(x, "loaf(1, 1)", x.loaf(1, 1), 1);
    }

    @Sentence(in = "Promise 15", says = "(8: of PAPER)")
    private static void p15_8OfPaper() {
        Edges.refused("loaf(2, 1)", x -> x.loaf(2, 1), 8);
    }

    @Sentence(in = "Promise 15", says = "2: its DAY, 3: SLICES, 4: FLOUR, 5: how many came of it")
    private static void p15_whats2To5() {
        PaperBread x = Edges.rich();
        int[] oat = {1, 7, 20, 3};
        int[] bun = {0, 3, 10, 3};
        for (int what = 2; what < 6; what++) {
            Check.fine(x, "loaf(1, " + what + ")", x.loaf(1, what), oat[what - 2]);
            Check.fine(x, "loaf(3, " + what + ")", x.loaf(3, what), bun[what - 2]);
        }
        Check.fine(x, "loaf(2, 4): no FLOUR", x.loaf(2, 4), 0);
        PaperBread y = Check.of("person a;oven o rain 16;loaf l by a in o on 1 slices 1 flour 1;");
        Check.days(y, "wait 1;bake l;");
        y.live(0);
        Check.fine(y, "loaf(0, 5): none came, but it is BAKED", y.loaf(0, 5), 0);
    }

    @Sentence(in = "Promise 15", says = "(8: it is not BAKED)")
    private static void p15_8NotBaked() {
        Edges.refused("loaf(0, 5)", x -> x.loaf(0, 5), 8);
        Edges.refused("loaf(2, 5) of PAPER", x -> x.loaf(2, 5), 8);
    }

    @Sentence(in = "Promise 15", says = "(2; 5).")
    private static void p15_refusals() {
        for (int l : new int[] {-1, 4, 8, MIN, MAX}) {
            Edges.refused("loaf(" + l + ", 0)", x -> x.loaf(l, 0), 2);
            Edges.refused("2 ahead of 5", x -> x.loaf(l, 6), 2);
        }
        for (int what : new int[] {-1, 6, MIN, MAX}) {
            Edges.refused("loaf(0, " + what + ")", x -> x.loaf(0, what), 5);
        }
    }

    @Sentence(in = "Promise 16", says = "Of a PROMISE, what 0: SLICES, 1: the LOAF, 2: from, 3: to, 4: the price, 5: 1 if it was let go, else 0")
    private static void p16_whats0To5() {
        PaperBread x = Edges.rich();
        int[][] due = {{6, 0, 0, 1, 4, 0}, {8, 0, 1, 2, 0, 0}, {2, 0, 2, 0, 0, 0}, {9, 2, 2, 1, 2, 0},
            {1, 1, 1, 0, 0, 1}};
        for (int p = 0; p < due.length; p++) {
            for (int what = 0; what < 6; what++) {
                Check.fine(x, "promise(" + p + ", " + what + ")", x.promise(p, what), due[p][what]);
            }
        }
    }

    @Sentence(in = "Promise 16", says = "(2; 5).")
    private static void p16_refusals() {
        for (int p : new int[] {-1, 5, 40, MIN, MAX}) {
            Edges.refused("promise(" + p + ", 0)", x -> x.promise(p, 0), 2);
            Edges.refused("2 ahead of 5", x -> x.promise(p, 6), 2);
        }
        for (int what : new int[] {-1, 6, MIN, MAX}) {
            Edges.refused("promise(0, " + what + ")", x -> x.promise(0, what), 5);
            Edges.refused("promise(4, " + what + ") let go", x -> x.promise(4, what), 5);
        }
    }

    public static void main(String[] args) {
        Edges.run(EdgesTownTest.class);
    }
}
