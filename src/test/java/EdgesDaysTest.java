import java.util.ArrayList;
import java.util.List;
import java.util.function.Supplier;

/** The sentences of promises 11, 44 to 46, of DAYS as a TEXT and of DAYS lived, one test each. */
public final class EdgesDaysTest {
    private static final int MIN = Edges.MIN;
    private static final int MAX = Edges.MAX;
    private static final int BLANKS = 0x20202020;

    private static void taken(String text, int steps) {
        PaperBread x = Edges.blank();
        Check.fine(x, "days of " + text, Check.days(x, text), steps);
        Check.due("fault(0)", x.fault(0), 0);
        Check.due("fault(1)", x.fault(1), -1);
    }

    /** A TOKEN is lacking, or another one stands there: what is told is its place. */
    private static void shape(int steps, String end, String... tokens) {
        taken(String.join(" ", tokens) + end, steps);
        StringBuilder text = new StringBuilder();
        for (int i = 0; i < tokens.length; i++) {
            int place = text.length();
            String sign = tokens[i].matches("[<>=]") ? "; ;" : "= ;";
            if (i > 0) {
                Edges.daysFault(text.toString().stripTrailing(), 2, text.toString().stripTrailing().length());
            }
            Edges.daysFault(text + sign, 2, place);
            Edges.daysFault(text + "purse ;", 2, place);
            Edges.daysFault(text + "? ;", 1, place);
            if (!tokens[0].equals("pay") || i != 1) {
                leftOut(i, end, tokens);
            }
            text.append(tokens[i]).append(" ");
        }
    }

    /** All TOKENS but for one: what comes in its place, or the end, can't stand there. */
    private static void leftOut(int without, String end, String... tokens) {
        List<String> rest = new ArrayList<>(List.of(tokens));
        rest.remove(without);
        int ahead = String.join(" ", List.of(tokens).subList(0, without)).length();
        boolean last = without == tokens.length - 1 && end.isEmpty();
        Edges.daysFault(String.join(" ", rest) + end, 2, ahead + (without == 0 || last ? 0 : 1));
    }

    private static String times(String one, int many) {
        return one.repeat(many);
    }

    /** The busy object's TOWN on DAY 0, with these DAYS. */
    private static Supplier<PaperBread> at(String days) {
        return () -> Check.of(Edges.TOWN, days);
    }

    /** Lives DAYS from DAY 0 on; due: the STEPS done, those MISSED. */
    private static PaperBread live(String days, int done, int missed) {
        PaperBread x = at(days).get();
        Check.fine(x, "live(0) of " + days, x.live(0), done);
        Check.fine(x, "lived(0) of " + days, x.lived(0), missed);
        return x;
    }

    // ---- Terms: DAYS as a TEXT

    @Sentence(in = "==== 4.", says = "DAYS are a TEXT of at most 300 bytes,")
    private static void t4_atMost300Bytes() {
        String text = "wait 1;" + times(" ", 288) + "stop;";
        Check.due("its length", text.length(), 300);
        taken(text, 2);
        PaperBread x = Edges.blank();
        Check.feed(x, text);
        Check.none(x, "days(299)", x.days(299), 10);
        Check.due("fault(1)", x.fault(1), 299);
        Edges.refused("days(301)", () -> {
            PaperBread y = Edges.blank();
            Check.feed(y, text + " ");
            return y;
        }, y -> y.days(301), 5);
    }

    @Sentence(in = "==== 4.", says = "of such TOKENS (none at first).")
    private static void t4_noneAtFirst() {
        Edges.refused("live(0) of a new object", PaperBread::new, x -> x.live(0), 8);
        Edges.refused("live(0) of a new TOWN", Edges.of(Edges.TOWN, x -> { }), x -> x.live(0), 8);
        taken("wait1;eat\nann 0002;", 2);
        Edges.daysFault("wait 00001;", 1, 5);
        Edges.daysFault("Wait 1;", 1, 0);
        Edges.daysFault("wait\t1;", 1, 4);
        Edges.daysFault("waits 1;", 2, 0);
    }

    @Sentence(in = "==== 4.", says = "DAYS: {STEP}.")
    private static void t4_noStepAtAll() {
        taken("", 0);
        taken(" \n ", 0);
        Edges.daysFault(";", 2, 0);
        Edges.daysFault("ann;", 2, 0);
        for (String word : new String[] {"person", "purse", "oven", "rain", "loaf", "by", "in", "on", "slices",
            "flour", "of", "from", "to", "for", "day", "has", "baked", "wet"}) {
            Edges.daysFault("stop;" + word + " 1;", 2, 5);
        }
    }

    @Sentence(in = "==== 4.", says = "STEP: promise NUMBER of NAME from NAME to NAME [for NUMBER] ;")
    private static void t4_stepPromise() {
        shape(1, "", "promise", "1", "of", "rye", "from", "ann", "to", "bob", "for", "3", ";");
        shape(1, "", "promise", "1", "of", "rye", "from", "ann", "to", "bob", ";");
    }

    @Sentence(in = "==== 4.", says = "or break NUMBER ;")
    private static void t4_stepBreak() {
        shape(1, "", "break", "1", ";");
    }

    @Sentence(in = "==== 4.", says = "or bake NAME ;")
    private static void t4_stepBake() {
        shape(1, "", "bake", "rye", ";");
    }

    @Sentence(in = "==== 4.", says = "or wait NUMBER ;")
    private static void t4_stepWait() {
        shape(1, "", "wait", "1", ";");
    }

    @Sentence(in = "==== 4.", says = "or eat NAME NUMBER ;")
    private static void t4_stepEat() {
        shape(1, "", "eat", "ann", "1", ";");
    }

    @Sentence(in = "==== 4.", says = "or pay NAME NAME NUMBER ;")
    private static void t4_stepPay() {
        shape(1, "", "pay", "ann", "bob", "1", ";");
        Edges.daysFault("pay bob 1 ;", 2, 8);
    }

    @Sentence(in = "==== 4.", says = "or when TEST ; {STEP} end ;")
    private static void t4_stepWhen() {
        shape(1, " end ;", "when", "wet", "hot", ";");
        shape(1, " end ;", "when", "baked", "rye", ";");
        shape(1, "", "when", "wet", "hot", ";", "end", ";");
        shape(2, "", "when", "wet", "hot", ";", "wait", "1", ";", "end", ";");
    }

    @Sentence(in = "==== 4.", says = "or loop NUMBER ; {STEP} end ;")
    private static void t4_stepLoop() {
        shape(1, "", "loop", "1", ";", "end", ";");
        shape(2, "", "loop", "1", ";", "wait", "1", ";", "end", ";");
    }

    @Sentence(in = "==== 4.", says = "or stop ;")
    private static void t4_stepStop() {
        shape(1, "", "stop", ";");
    }

    @Sentence(in = "==== 4.", says = "TEST: day COMPARES NUMBER (0 to 99),")
    private static void t4_testDay0To99() {
        shape(1, " end ;", "when", "day", "<", "1", ";");
        taken("when day = 0;end;when day = 99;end;", 2);
        Edges.daysFault("when day = 100;end;", 4, 11);
    }

    @Sentence(in = "==== 4.", says = "or has NAME COMPARES NUMBER (0 to 999),")
    private static void t4_testHas0To999() {
        shape(1, " end ;", "when", "has", "ann", ">", "1", ";");
        taken("when has ann = 0;end;when has ann = 999;end;", 2);
        Edges.daysFault("when has ann = 1000;end;", 4, 15);
    }

    @Sentence(in = "==== 4.", says = "or baked NAME, or wet NAME.")
    private static void t4_testBakedWet() {
        taken("when baked ink;end;when wet old;end;", 2);
        Edges.daysFault("when baked hot;end;", 3, 11);
        Edges.daysFault("when wet rye;end;", 3, 9);
        Edges.daysFault("when baked;end;", 2, 10);
        Edges.daysFault("when ann;end;", 2, 5);
        Edges.daysFault("when ;end;", 2, 5);
    }

    @Sentence(in = "==== 4.", says = "COMPARES: < or > or =")
    private static void t4_compares() {
        taken("when day<1;end;when day>1;end;when day=1;end;", 3);
        Edges.daysFault("when day ; 1;end;", 2, 9);
        Edges.daysFault("when day 1;end;", 2, 9);
        Edges.daysFault("when day <= 1;end;", 2, 10);
        Edges.daysFault("when day ! 1;end;", 1, 9);
    }

    // ---- Terms: FAULTS of DAYS

    @Sentence(in = "==== 4.", says = "FAULTS: 1, 2 as above (an end without a beginning; the text's end ahead of an end: 2).")
    private static void t4_fault1And2() {
        Edges.daysFault("stop;$", 1, 5);
        Edges.daysFault("wait 12345;", 1, 5);
        Edges.daysFault("end;", 2, 0);
        Edges.daysFault("loop 2;end;end;", 2, 11);
        Edges.daysFault("stop;end;", 2, 5);
        Edges.daysFault("loop 2;", 2, 7);
        Edges.daysFault("loop 2;stop; \n", 2, 14);
        Edges.daysFault("when wet hot;loop 2;end;", 2, 24);
        Edges.daysFault("loop 2;end", 2, 10);
        Edges.daysFault("bake aaaaaaaaa;", 2, 5);
        Edges.daysFault("bake stop;", 2, 5);
    }

    @Sentence(in = "==== 4.", says = "3, 5 likewise.")
    private static void t4_fault3And5() {
        Edges.daysFault("bake zed;", 3, 5);
        Edges.daysFault("bake ann;", 3, 5);
        Edges.daysFault("bake hot;", 3, 5);
        Edges.daysFault("eat rye 1;", 3, 4);
        Edges.daysFault("pay hot ann 1;", 3, 4);
        Edges.daysFault("pay ann hot 1;", 3, 8);
        Edges.daysFault("when has rye = 1;end;", 3, 9);
        Edges.daysFault("promise 1 of ann from ann to bob;", 3, 13);
        Edges.daysFault("promise 1 of rye from rye to bob;", 3, 22);
        Edges.daysFault("promise 1 of rye from ann to rye;", 3, 29);
        Edges.daysFault("promise 1 of rye from ann to ann;", 5, 29);
        taken("pay ann ann 1;", 1);
    }

    private static void number(String ahead, int least, int most, String behind) {
        taken(ahead + least + behind, 1);
        taken(ahead + most + behind, 1);
        if (least > 0) {
            Edges.daysFault(ahead + (least - 1) + behind, 4, ahead.length());
        }
        Edges.daysFault(ahead + (most + 1) + behind, 4, ahead.length());
    }

    @Sentence(in = "==== 4.", says = "4 a NUMBER that can't be.")
    private static void t4_fault4() {
        number("promise ", 1, 99, " of rye from ann to bob;");
        number("promise 1 of rye from ann to bob for ", 0, 999, ";");
        number("when day = ", 0, 99, ";end;");
        number("when has bob < ", 0, 999, ";end;");
    }

    @Sentence(in = "==== 4.", says = "6 a 31st STEP (at its WORD; end is none).")
    private static void t4_fault6() {
        taken(times("stop;", 30), 30);
        Edges.daysFault(times("stop;", 31), 6, 150);
        Edges.daysFault(times("stop;", 30) + " wait 99", 6, 151);
        String blocks = times("loop 1;end;", 5);
        taken(blocks + times("stop;", 25), 30);
        Edges.daysFault(blocks + times("stop;", 26), 6, 180);
        String open = "loop 1;" + times("stop;", 29);
        taken(open + "end;", 30);
        Edges.daysFault(open + "loop 1;end;end;", 6, 152);
        Edges.daysFault(times("stop;", 30) + "purse", 2, 150);
        Edges.daysFault(times("stop;", 30) + "?", 1, 150);
        Edges.daysFault(times("stop;", 30) + "end;", 2, 150);
    }

    @Sentence(in = "==== 4.", says = "7 a when, loop within three others (at its WORD).")
    private static void t4_fault7() {
        taken("loop 1;when wet hot;loop 1;stop;end;end;end;", 4);
        Edges.daysFault("loop 1;when wet hot;loop 1;when", 7, 27);
        Edges.daysFault("when wet hot;when wet hot;when wet hot;stop; loop 100;", 7, 45);
        taken("loop 1;loop 1;loop 1;end;loop 1;end;end;loop 1;end;end;loop 1;end;", 6);
        String full = "loop 1;loop 1;loop 1;" + times("stop;", 27);
        taken(full + "end;end;end;", 30);
        Edges.daysFault(full + "loop 1;", 6, 156);
    }

    // ---- Terms: what STEPS do

    @Sentence(in = "==== 4.", says = "promise: one more is made, if there are fewer than 40 and the LOAF is not BAKED.")
    private static void t4_promiseFewerThan40NotBaked() {
        PaperBread x = live("loop 35;promise 1 of ink from cid to ann for 1;end;", 36, 0);
        Check.fine(x, "many(3)", x.many(3), 40);
        Check.fine(x, "promise(39, 4)", x.promise(39, 4), 1);
        PaperBread y = live("loop 36;promise 1 of ink from cid to ann for 1;end;", 37, 1);
        Check.fine(y, "many(3)", y.many(3), 40);
        Check.fine(y, "nothing is paid for what is MISSED", y.person(0, 0), 24 - 35);
        Check.fine(y, "nor HELD", y.holds(0, 2), 35);
        PaperBread z = live("bake bun;promise 1 of bun from ann to bob for 9;", 2, 1);
        Check.fine(z, "many(3)", z.many(3), 5);
        Check.fine(z, "person(0, 0)", z.person(0, 0), 24);
        live("wait 9;promise 1 of bun from ann to bob;promise 1 of ink from ann to bob;", 3, 0);
    }

    @Sentence(in = "==== 4.", says = "break: PROMISE n (0 to 39), that is there, is let go:")
    private static void t4_break0To39ThatIsThere() {
        number("break ", 0, 39, ";");
        live("break 0;break 4;", 2, 0);
        live("break 5;break 39;", 2, 2);
        PaperBread x = live("break 3;break 3;", 2, 1);
        Check.fine(x, "person(2, 0): once alone", x.person(2, 0), 0);
        live("wait 1;bake oat;break 4;", 3, 1);
        PaperBread y = live("loop 35;promise 1 of ink from cid to ann;end;break 39;", 37, 0);
        Check.fine(y, "promise(39, 5)", y.promise(39, 5), 1);
    }

    @Sentence(in = "==== 4.", says = "it is as if it had not been made (its price goes back), its number stays.")
    private static void t4_breakAsIfNotMade() {
        PaperBread x = live("break 0;promise 7 of rye from ann to bob;", 2, 0);
        Check.fine(x, "person(0, 0)", x.person(0, 0), 20);
        Check.fine(x, "person(1, 0)", x.person(1, 0), 3);
        Check.fine(x, "promise(0, 5)", x.promise(0, 5), 1);
        Check.fine(x, "promise(1, 0)", x.promise(1, 0), 8);
        Check.fine(x, "many(3)", x.many(3), 6);
        Check.fine(x, "promise(5, 0)", x.promise(5, 0), 7);
        Check.fine(x, "depth(1): none leads to it", x.depth(1), 0);
        Check.fine(x, "FIRST is cid now", x.first(1, 2, 0), 2);
    }

    @Sentence(in = "==== 4.", says = "bake: the LOAF, if that can be on this DAY;")
    private static void t4_bakeOnThisDay() {
        PaperBread x = live("bake bun;", 1, 0);
        Check.fine(x, "many(5)", x.many(5), 8);
        live("wait 1;bake bun;", 2, 1);
        live("bake oat;", 1, 1);
        live("bake bun;bake bun;", 2, 1);
        live("wait 3;bake ink;", 2, 1);
    }

    private static PaperBread oven(int rain, int seed, int days) {
        PaperBread x = Check.of("person a;oven o rain " + rain + ";", "wait " + days + ";");
        x.live(seed);
        return x;
    }

    /** From seed 13 the first draw is 8, from 4 it is 7, from 0 it is 13. */
    @Sentence(in = "==== 4.", says = "an OVEN is WET on a DAY by a draw by 16 that is less than its sixteenths:")
    private static void t4_wetByADrawThatIsLess() {
        Check.due("8 is not less than 8", oven(8, 13, 1).many(6), 0);
        Check.due("8 is less than 9", oven(9, 13, 1).many(6), 1);
        Check.due("7 is less than 8", oven(8, 4, 1).many(6), 1);
        Check.due("13 is not less than 13", oven(13, 0, 1).many(6), 0);
        Check.due("13 is less than 14", oven(14, 0, 1).many(6), 1);
        for (int seed = 0; seed < 100; seed++) {
            Check.due("nothing is less than 0", oven(0, seed, 1).many(6), 0);
            Check.due("all is less than 16", oven(16, seed, 1).many(6), 1);
        }
    }

    /** From seed 0 the draws are 13, 9, 2, 15. */
    @Sentence(in = "==== 4.", says = "one for each OVEN, by numbers, whenever a DAY begins by wait.")
    private static void t4_oneForEachOvenByNumbers() {
        String two = "person a;oven o rain 10;oven p rain 10;";
        PaperBread x = Check.of(two, "wait 1;");
        x.live(0);
        Check.fine(x, "13 for o, 9 for p", x.many(6), 2);
        PaperBread y = Check.of(two, "wait 2;");
        y.live(0);
        Check.fine(y, "2 for o, 15 for p", y.many(6), 1);
        PaperBread none = Check.of("person a;oven o;oven p rain 10;", "wait 1;");
        none.live(0);
        Check.fine(none, "one that never is WET draws, too", none.many(6), 2);
        PaperBread z = Check.of(two, "stop;");
        z.live(0);
        Check.fine(z, "no DAY begins", z.many(6), 0);
        Check.days(z, "wait 1;");
        z.live(0);
        z.pass(1);
        Check.fine(z, "by pass() all are dry", z.many(6), 0);
        PaperBread last = Check.of("person a;oven o rain 16;", "loop 12;wait 9;end;");
        last.live(0);
        Check.fine(last, "WET on DAY 99, and still so", last.many(6), 1);
    }

    @Sentence(in = "==== 4.", says = "What each GETS is its own then.")
    private static void t4_whatEachGetsIsItsOwn() {
        PaperBread x = live("wait 1;bake oat;", 2, 0);
        int[] own = {0, 3, 0};
        for (int p = 0; p < 3; p++) {
            Check.fine(x, "person(" + p + ", 1)", x.person(p, 1), own[p]);
        }
        Check.fine(x, "bob lacks one for ann: person(1, 2)", x.person(1, 2), 1);
    }

    @Sentence(in = "==== 4.", says = "wait n (1 to 9): so many DAYS, as far as DAY 99 (none: MISSED).")
    private static void t4_wait1To9AsFarAsDay99() {
        number("wait ", 1, 9, ";");
        PaperBread x = live("loop 11;wait 9;end;", 12, 0);
        Check.fine(x, "many(4)", x.many(4), 99);
        PaperBread y = live("loop 11;wait 9;end;wait 1;", 13, 1);
        Check.fine(y, "many(4)", y.many(4), 99);
        PaperBread z = live("loop 10;wait 9;end;wait 8;wait 9;", 13, 0);
        Check.fine(z, "as far as DAY 99", z.many(4), 99);
    }

    @Sentence(in = "==== 4.", says = "eat (1 to 99): a person eats so many SLICES of its own, or all it has.")
    private static void t4_eat1To99OrAll() {
        number("eat ann ", 1, 99, ";");
        PaperBread x = live("bake bun;eat ann 2;", 2, 0);
        Check.fine(x, "person(0, 1)", x.person(0, 1), 1);
        Check.fine(x, "lived(2)", x.lived(2), 2);
        PaperBread y = live("bake bun;eat ann 99;", 2, 0);
        Check.fine(y, "person(0, 1)", y.person(0, 1), 0);
        Check.fine(y, "lived(2)", y.lived(2), 3);
        PaperBread z = live("bake bun;eat ann 3;eat ann 1;", 3, 1);
        Check.fine(z, "lived(2)", z.lived(2), 3);
    }

    @Sentence(in = "==== 4.", says = "pay (1 to 999): from one PURSE to another, if it has so much.")
    private static void t4_pay1To999IfItHasSoMuch() {
        number("pay ann bob ", 1, 999, ";");
        PaperBread x = live("pay ann bob 24;", 1, 0);
        Check.fine(x, "person(0, 0)", x.person(0, 0), 0);
        Check.fine(x, "person(1, 0)", x.person(1, 0), 23);
        PaperBread y = live("pay ann bob 25;", 1, 1);
        Check.fine(y, "person(0, 0)", y.person(0, 0), 24);
        live("pay bob ann 1;", 1, 1);
        PaperBread z = live("pay cid bob 2;", 1, 0);
        Check.fine(z, "person(2, 0)", z.person(2, 0), 0);
        Check.fine(z, "person(1, 0)", z.person(1, 0), 1);
        live("pay cid bob 3;", 1, 1);
    }

    @Sentence(in = "==== 4.", says = "What can't be is MISSED (to eat nothing, to pay oneself, too).")
    private static void t4_whatCantBeIsMissed() {
        live("eat ann 1;", 1, 1);
        live("pay ann ann 1;", 1, 1);
        PaperBread x = live("eat ann 1;pay ann ann 24;bake oat;bake ink;break 9;wait 1;", 6, 5);
        Check.fine(x, "person(0, 0)", x.person(0, 0), 24);
        Check.fine(x, "all goes on behind it", x.many(4), 1);
    }

    @Sentence(in = "==== 4.", says = "when day: the DAY;")
    private static void t4_whenDay() {
        live("when day = 0;stop;end;", 2, 0);
        live("when day < 0;stop;end;", 1, 0);
        live("when day > 0;stop;end;", 1, 0);
        live("wait 4;when day < 5;wait 1;end;when day < 5;stop;end;", 4, 0);
        live("wait 5;when day > 4;wait 1;end;when day > 6;stop;end;", 4, 0);
        live("loop 11;wait 9;end;when day = 99;stop;end;", 14, 0);
    }

    @Sentence(in = "==== 4.", says = "has: SLICES of its own that a person has;")
    private static void t4_whenHas() {
        live("when has ann = 0;stop;end;", 2, 0);
        live("bake bun;when has ann > 2;stop;end;", 3, 0);
        live("bake bun;when has ann > 3;stop;end;", 2, 0);
        live("bake bun;when has ann < 4;stop;end;", 3, 0);
        live("bake bun;when has ann < 3;stop;end;", 2, 0);
        live("bake bun;eat ann 1;when has ann = 2;stop;end;", 4, 0);
        live("when has bob > 0;stop;end;", 1, 0);
        live("wait 1;bake oat;when has bob = 3;stop;end;", 4, 0);
        live("wait 1;bake oat;when has cid = 3;stop;end;", 3, 0);
    }

    @Sentence(in = "==== 4.", says = "baked: a LOAF; wet: an OVEN.")
    private static void t4_whenBakedWhenWet() {
        live("when baked bun;stop;end;", 1, 0);
        live("bake bun;when baked bun;stop;end;", 3, 0);
        live("bake bun;when baked rye;stop;end;", 2, 0);
        live("when wet old;stop;end;", 1, 0);
        live("wait 1;when wet old;stop;end;", 3, 0);
        PaperBread x = Check.of("person a;oven o;oven p rain 16;", "wait 1;when wet o;stop;end;when wet p;stop;end;");
        Check.fine(x, "the OVEN that is asked for", x.live(0), 4);
    }

    @Sentence(in = "==== 4.", says = "loop n (1 to 99): as often.")
    private static void t4_loop1To99() {
        number("loop ", 1, 99, ";end;");
        PaperBread x = live("loop 1;wait 1;end;", 2, 0);
        Check.fine(x, "many(4)", x.many(4), 1);
        PaperBread y = live("loop 99;wait 1;end;", 100, 0);
        Check.fine(y, "many(4)", y.many(4), 99);
        live("loop 99;end;", 1, 0);
        PaperBread z = live("loop 2;loop 3;wait 1;end;wait 1;end;", 1 + 2 * (1 + 3 + 1), 0);
        Check.fine(z, "many(4)", z.many(4), 8);
    }

    /** A loop that was stopped, or left behind at the 300th STEP, is not gone on with later. */
    @Sentence(in = "==== 4.", says = "or when TEST ; {STEP} end ; or loop NUMBER ; {STEP} end ; or stop ;")
    private static void t4_aStoppedLoopIsOver() {
        PaperBread x = live("loop 9;stop;end;", 2, 0);
        Check.days(x, "when day = 0;wait 1;end;");
        Check.fine(x, "live(0)", x.live(0), 2);
        Check.fine(x, "many(4)", x.many(4), 1);
        Check.days(x, "loop 2;wait 1;end;");
        Check.fine(x, "live(0)", x.live(0), 3);
        Check.fine(x, "many(4)", x.many(4), 3);
    }

    private static void left(String days, int done, int left) {
        PaperBread x = at(days).get();
        Check.fine(x, "live(0) of " + days, x.live(0), done);
        Check.fine(x, "lived(4) of " + days, x.lived(4), left);
    }

    @Sentence(in = "==== 4.", says = "At most 300 STEPS")
    private static void t4_atMost300Steps() {
        String hundred = "loop 99;pay ann bob 999;end;";
        left(times(hundred, 3), 300, 0);
        left(times(hundred, 3) + "wait 1;", 300, 1);
        left(times(hundred, 2) + "loop 98;pay ann bob 999;end;wait 1;", 300, 0);
        left(times(hundred, 2) + "loop 98;pay ann bob 999;end;", 299, 0);
        PaperBread x = at(times(hundred, 3) + "wait 1;").get();
        x.live(0);
        Check.fine(x, "what is left is not done", x.many(4), 0);
    }

    @Sentence(in = "==== 4.", says = "(when, loop count as one each time they are come to from ahead; end does not).")
    private static void t4_whenAndLoopCountOnce() {
        left("loop 99;end;", 1, 0);
        left("loop 3;loop 4;end;end;", 4, 0);
        left("loop 3;when day = 0;end;end;", 4, 0);
        left("loop 3;when day = 1;stop;end;end;", 4, 0);
        left("loop 99;when day = 0;loop 2;end;end;end;", 1 + 99 * 2, 0);
        left("loop 99;when day = 0;loop 2;end;end;wait 1;end;", 1 + 3 + 98 * 2, 0);
        left("loop 99;loop 99;loop 99;end;end;end;", 300, 1);
    }

    @Sentence(in = "==== 4.", says = "LIVED by a seed (0 to 9,999): all is as it is then.")
    private static void t4_seed0To9999() {
        PaperBread x = at("wait 1;bake oat;").get();
        Check.fine(x, "live(9999)", x.live(9999), 2);
        Check.fine(x, "many(4)", x.many(4), 1);
        Check.fine(x, "many(5)", x.many(5), 2);
        Check.fine(x, "live(0) goes on from there", x.live(0), 2);
        Check.fine(x, "many(4)", x.many(4), 2);
        Check.fine(x, "lived(0)", x.lived(0), 1);
        Check.none(x, "live(10000)", x.live(10000), 5);
    }

    /** A hundred seeds over all there may be, by the rule written out in longs. */
    @Sentence(in = "==== 4.", says = "Draws: s, at first the seed, becomes what is left of s times 2,803 and 10,607 by 65,536; "
            + "the draw is the rest of s by 8, rounded down, by 16.")
    private static void t4_draws() {
        for (int seed = 0; seed <= 9999; seed += 101) {
            PaperBread x = Check.of("person a;oven o rain 3;oven p rain 8;oven q rain 13;oven r rain 15;", "wait 3;");
            x.live(seed);
            long s = seed;
            int set = 0;
            int[] rain = {3, 8, 13, 15};
            for (int draw = 0; draw < 12; draw++) {
                s = (s * 2803L + 10607L) % 65536L;
                boolean wet = s / 8 % 16 < rain[draw % 4];
                set = draw % 4 == 0 ? 0 : set;
                set |= wet ? 1 << draw % 4 : 0;
            }
            Check.due("many(6) by seed " + seed, x.many(6), set);
        }
    }

    // ---- Promise 11

    @Sentence(in = "Promise 11", says = "Likewise the DAYS: how many STEPS")
    private static void p11_howManySteps() {
        taken("", 0);
        taken("loop 2;when day < 5;wait 1;end;end;stop;", 4);
        PaperBread x = Edges.blank();
        Check.feed(x, "stop;?");
        Check.fine(x, "days(5): the first n bytes", x.days(5), 1);
        Check.due("the tape is empty with 0", x.feed(0, 0, 0, 0, 0), 20);
        Check.none(x, "days(1)", x.days(1), 10);
        Check.due("the tape is empty with 10", x.feed(0, 0, 0, 0, 0), 20);
        Check.fine(x, "a DAYS' TEXT of no STEPS is one: days(0)", x.days(0), 0);
        Check.fine(x, "live(0)", x.live(0), 0);
        PaperBread y = Edges.rich();
        Check.fine(y, "live(0)", y.live(0), 3);
        Edges.unchangedBut("days() changes the DAYS and the tape alone", Edges::rich, z -> z.days(0),
                Edges.FAULT, Edges.TAPE, Edges.DAYS);
    }

    @Sentence(in = "Promise 11", says = "(5: above 300, too;")
    private static void p11_5Above300() {
        for (int n : new int[] {-1, MIN, 21, 301, 901, MAX}) {
            Edges.refused("days(" + n + ")", x -> x.days(n), 5);
        }
        Supplier<PaperBread> full = () -> {
            PaperBread x = Edges.blank();
            for (int i = 0; i < 45; i++) {
                x.feed(BLANKS, BLANKS, BLANKS, BLANKS, BLANKS);
            }
            return x;
        };
        Edges.refused("days(301)", full, x -> x.days(301), 5);
        Edges.refused("days(900)", full, x -> x.days(900), 5);
        PaperBread x = full.get();
        Check.fine(x, "days(300)", x.days(300), 0);
    }

    @Sentence(in = "Promise 11", says = "10).")
    private static void p11_10TheOldOnesStay() {
        Edges.daysFault("wait 1;wait 0;", 4, 12);
        PaperBread x = Edges.blank();
        Check.none(x, "days", Check.days(x, "stop;end;"), 10);
        Check.fine(x, "the old ones stay", x.live(0), 3);
    }

    // ---- Promise 44

    @Sentence(in = "Promise 44", says = "LIVED: how many STEPS were done")
    private static void p44_howManySteps() {
        live("", 0, 0);
        live("stop;wait 1;", 1, 0);
        live("eat ann 1;eat ann 1;", 2, 2);
    }

    @Sentence(in = "Promise 44", says = "(5; 8: no DAYS' TEXT).")
    private static void p44_refusals() {
        for (int seed : new int[] {-1, 10000, MIN, MAX}) {
            Edges.refused("live(" + seed + ")", x -> x.live(seed), 5);
            Edges.refused("5 ahead of 8", Edges.of(Edges.TOWN, x -> { }), x -> x.live(seed), 5);
        }
        Edges.refused("8", Edges.of(Edges.TOWN, x -> { }), x -> x.live(0), 8);
        Edges.refused("8 with a TOWN anew", () -> {
            PaperBread x = Edges.blank();
            Check.town(x, Edges.TOWN);
            return x;
        }, x -> x.live(9999), 8);
        Edges.refused("8 by a MARK", () -> {
            PaperBread x = Check.of(Edges.TOWN);
            x.mark();
            Check.days(x, "stop;");
            x.back();
            return x;
        }, x -> x.live(0), 8);
    }

    // ---- Promise 45

    @Sentence(in = "Promise 45", says = "Of live() latest with STATUS 0,")
    private static void p45_latestWith0() {
        PaperBread x = Edges.rich();
        int[] due = {0, 3, 2, 1, 0};
        x.live(-1);
        for (int what = 0; what < 5; what++) {
            Check.fine(x, "lived(" + what + ")", x.lived(what), due[what]);
        }
        x.odds(0, 1, 0, 20);
        for (int what = 0; what < 5; what++) {
            Check.fine(x, "lived(" + what + ") behind odds()", x.lived(what), due[what]);
        }
        x.live(1);
        int[] anew = {1, 0, 1, 0, 0};
        for (int what = 0; what < 5; what++) {
            Check.fine(x, "lived(" + what + ") of the latest", x.lived(what), anew[what]);
        }
        x.live(1);
        Check.fine(x, "lived(0): those of the latest alone", x.lived(0), 2);
        x.days(0);
        Check.days(x, "loop 99;loop 99;pay ann ann 1;end;end;");
        x.live(0);
        Check.fine(x, "lived(4)", x.lived(4), 1);
        x.days(0);
        x.live(0);
        for (int what = 0; what < 5; what++) {
            Check.fine(x, "lived(" + what + ") of no STEPS", x.lived(what), 0);
        }
    }

    @Sentence(in = "Promise 45", says = "what 0: MISSED, 1: SLICES BAKED, 2: eaten, 3: LOAVES BAKED wet,")
    private static void p45_whats0To3() {
        PaperBread x = Check.of("person a;oven o;oven p rain 16;loaf k by a in o on 1 slices 9 flour 0;"
                + "loaf l by a in p on 1 slices 9 flour 0;loaf m by a in p on 1 slices 1 flour 0;"
                + "loaf n by a in p on 0 slices 5 flour 0;",
                "bake n;wait 1;bake k;bake l;bake m;bake m;eat a 7;eat a 99;");
        Check.fine(x, "live(0)", x.live(0), 8);
        int[] due = {1, 5 + 9 + 4, 18, 2, 0};
        for (int what = 0; what < 5; what++) {
            Check.fine(x, "lived(" + what + ")", x.lived(what), due[what]);
        }
    }

    @Sentence(in = "Promise 45", says = "4: 1 if a STEP was left to be done, else 0")
    private static void p45_what4() {
        left("", 0, 0);
        left("stop;wait 1;", 1, 0);
        left("loop 99;loop 99;end;end;", 100, 0);
        String almost = times("loop 99;pay ann bob 999;end;", 3);
        left(almost, 300, 0);
        left(almost + "stop;", 300, 1);
        left("loop 1;" + times("loop 99;pay ann bob 999;end;", 2) + "loop 98;pay ann bob 999;end;end;", 300, 0);
        left("loop 2;" + times("loop 99;pay ann bob 999;end;", 2) + "loop 98;pay ann bob 999;end;end;", 300, 1);
    }

    @Sentence(in = "Promise 45", says = "(5; 8: there was none).")
    private static void p45_refusals() {
        for (int what : new int[] {-1, 5, MIN, MAX}) {
            Edges.refused("lived(" + what + ")", x -> x.lived(what), 5);
            Edges.refused("5 ahead of 8", PaperBread::new, x -> x.lived(what), 5);
        }
        for (int what = 0; what < 5; what++) {
            int w = what;
            Edges.refused("lived(" + what + ")", PaperBread::new, x -> x.lived(w), 8);
            Edges.refused("odds() is no live()", () -> {
                PaperBread x = at("stop;").get();
                x.live(-1);
                x.odds(0, 1, 0, 1);
                return x;
            }, x -> x.lived(w), 8);
        }
    }

    // ---- Promise 46

    private static final String RYE = "wait 2;bake rye;";

    /** The third draw is 2 from seed 0, 15 from 1, 13 from 2: it RAINS on hot by seed 0 alone. */
    @Sentence(in = "Promise 46", says = "The FRACTION is in how many of so many seeds (1 to 20) from one on")
    private static void p46_seeds1To20() {
        PaperBread x = at(RYE).get();
        Check.fraction(x, "odds(2, 4, 0, 1)", x.odds(2, 4, 0, 1), 0, 1);
        Check.fraction(x, "odds(2, 4, 1, 1)", x.odds(2, 4, 1, 1), 1, 1);
        Check.fraction(x, "odds(2, 4, 0, 3)", x.odds(2, 4, 0, 3), 2, 3);
        int enough = 0;
        for (int seed = 0; seed < 20; seed++) {
            x.mark();
            x.live(seed);
            enough += x.person(2, 1) >= 4 ? 1 : 0;
            x.back();
        }
        Check.fine(x, "odds(2, 4, 0, 20)", x.odds(2, 4, 0, 20));
        Check.due("of 20", x.top() * 20, enough * x.bottom());
        for (int many : new int[] {0, -1, 21, MIN, MAX}) {
            Edges.denied("odds(2, 4, 0, " + many + ")", at(RYE), y -> y.odds(2, 4, 0, many), 5);
        }
    }

    @Sentence(in = "Promise 46", says = "a person has so many SLICES (1 to 999) of its own, or more, behind the DAYS")
    private static void p46_slices1To999OrMore() {
        PaperBread x = at(RYE).get();
        Check.fraction(x, "as many as it has", x.odds(2, 4, 1, 1), 1, 1);
        Check.fraction(x, "it has more", x.odds(2, 1, 1, 1), 1, 1);
        Check.fraction(x, "it has one less", x.odds(2, 5, 1, 1), 0, 1);
        Check.fraction(x, "999 may be asked", x.odds(2, 999, 1, 1), 0, 1);
        for (int slices : new int[] {0, -1, 1000, MIN, MAX}) {
            Edges.denied("odds(2, " + slices + ", 0, 1)", at(RYE), y -> y.odds(2, slices, 0, 1), 5);
        }
        PaperBread had = Edges.rich();
        Check.fraction(had, "what it had ahead counts", had.odds(0, 3, 0, 7), 1, 1);
        PaperBread eaten = at("bake bun;eat ann 2;").get();
        Check.fraction(eaten, "what it ate does not", eaten.odds(0, 2, 0, 7), 0, 1);
    }

    @Sentence(in = "Promise 46", says = "(all stays as it is)")
    private static void p46_allStaysAsItIs() {
        Edges.unchangedBut("odds(2, 4, 0, 20)", at(RYE), x -> x.odds(2, 4, 0, 20), Edges.FRACTION);
        Edges.unchangedBut("odds(0, 1, 0, 20)", Edges::rich, x -> x.odds(0, 1, 0, 20), Edges.FRACTION);
        Edges.unchangedBut("odds() of many STEPS", Edges.rich(x -> {
            x.days(0);
            Check.days(x, "loop 30;promise 1 of ink from cid to ann for 9;wait 3;pay ann bob 1;end;break 0;");
        }), x -> x.odds(0, 1, 0, 20), Edges.FRACTION);
    }

    @Sentence(in = "Promise 46", says = "(2; 5: the last above 9,999, too; 8).")
    private static void p46_refusals() {
        for (int p : new int[] {-1, 3, 8, MIN, MAX}) {
            Edges.denied("odds(" + p + ", 1, 0, 1)", x -> x.odds(p, 1, 0, 1), 2);
            Edges.denied("2 ahead of 5", x -> x.odds(p, 0, -1, 0), 2);
        }
        int[][] wrong = {{-1, 1}, {10000, 1}, {9999, 2}, {9981, 20}, {MIN, 1}, {MAX, 1}, {MAX, 20}, {MAX - 18, 20}};
        for (int[] w : wrong) {
            Edges.denied("odds(0, 1, " + w[0] + ", " + w[1] + ")", x -> x.odds(0, 1, w[0], w[1]), 5);
        }
        PaperBread x = Edges.rich();
        Check.fine(x, "odds(0, 1, 9999, 1)", x.odds(0, 1, 9999, 1));
        Check.fine(x, "odds(0, 1, 9980, 20)", x.odds(0, 1, 9980, 20));
        Supplier<PaperBread> none = Edges.of(Edges.TOWN, y -> { });
        Edges.denied("no DAYS' TEXT", none, y -> y.odds(0, 1, 0, 1), 8);
        Edges.denied("5 ahead of 8", none, y -> y.odds(0, 1, 9999, 2), 5);
        Edges.denied("2 ahead of 8", none, y -> y.odds(3, 1, 0, 1), 2);
    }

    public static void main(String[] args) {
        Edges.run(EdgesDaysTest.class);
    }
}
