import java.lang.reflect.Method;
import java.lang.reflect.Modifier;
import java.util.Arrays;
import java.util.Set;
import java.util.function.Supplier;

/** The sentences of promises 1 to 8, of TRAYS, of STATUS and of FRACTIONS, one test each. */
public final class EdgesTraysTest {
    private static final int MIN = Edges.MIN;
    private static final int MAX = Edges.MAX;
    private static final int[] NO_TRAYS = {-1, 4, MIN, MAX};

    /** TRAY 0 is 1, 2 .. of sort 1, TRAY 1 is empty places of sort 1, TRAY 2 of sort 2, 3 is MISSING. */
    private static Supplier<PaperBread> rows(int first, int second) {
        return () -> {
            PaperBread x = new PaperBread();
            x.tray(0, 1, first);
            for (int i = 0; i < first; i++) {
                x.write(0, i, i + 1);
            }
            x.tray(1, 1, second);
            x.tray(2, 2, 5);
            return x;
        };
    }

    private static void row(PaperBread x, String call, int tray, long... due) {
        for (int i = 0; i < due.length; i++) {
            Check.fine(x, call + ": place " + i, x.read(tray, i), due[i]);
        }
        Check.none(x, call + ": no more places", x.read(tray, due.length), 4);
    }

    // ---- What it is

    @Sentence(in = "What it is", says = "An object is used for at most 512 calls after it has been made")
    private static void t0_the512thCallAnswers() {
        PaperBread x = new PaperBread();
        x.tray(0, 3, 60);
        for (int call = 2; call <= 511; call++) {
            x.write(0, call % 60, call);
        }
        Check.due("call 512: read(0, 31)", x.read(0, 511 % 60), 511);
    }

    @Sentence(in = "What it is", says = "what later calls answer is free")
    private static void t0_laterCallsEndAllTheSame() {
        PaperBread x = new PaperBread();
        int calls = 0;
        while (calls < 2000) {
            x.many(calls % 9);
            x.mark();
            x.feed(1, 2, 3, 4, 5);
            calls += 3;
        }
        Check.due("none of so many threw", calls >= 2000, true);
    }

    // ---- Terms: TRAYS

    @Sentence(in = "==== 1.", says = "TRAYS, 0 to 3,")
    private static void t1_trays0To3() {
        for (int tray : NO_TRAYS) {
            Edges.denied("tray(" + tray + ", 0, 1)", x -> x.tray(tray, 0, 1), 1);
        }
        PaperBread x = new PaperBread();
        for (int tray = 0; tray < 4; tray++) {
            Check.fine(x, "tray(" + tray + ", 0, 1)", x.tray(tray, 0, 1));
        }
    }

    @Sentence(in = "==== 1.", says = "are MISSING at first")
    private static void t1_missingAtFirst() {
        for (int tray = 0; tray < 4; tray++) {
            int t = tray;
            Edges.refused("read(" + t + ", 0)", PaperBread::new, x -> x.read(t, 0), 3);
        }
    }

    private static void sort(int sort, long most) {
        PaperBread x = new PaperBread();
        x.tray(3, sort, 1);
        long[] written = {most, -most - 1, most + 1, -most - 2, 2 * most + 1, 2 * most + 2};
        long[] due = {most, -most - 1, -most - 1, most, -1, 0};
        for (int i = 0; i < due.length; i++) {
            Check.fine(x, "write(3, 0, " + written[i] + ")", x.write(3, 0, written[i]));
            Check.fine(x, "read of sort " + sort, x.read(3, 0), due[i]);
        }
    }

    @Sentence(in = "==== 1.", says = "or rows of numbers of 8 bits (sort 0)")
    private static void t1_sort0Has8Bits() {
        sort(0, Byte.MAX_VALUE);
    }

    @Sentence(in = "==== 1.", says = "16 (1)")
    private static void t1_sort1Has16Bits() {
        sort(1, Short.MAX_VALUE);
    }

    @Sentence(in = "==== 1.", says = "32 (2)")
    private static void t1_sort2Has32Bits() {
        sort(2, Integer.MAX_VALUE);
    }

    /** Above the most a long wraps by itself, ahead of the call. */
    @Sentence(in = "==== 1.", says = "or 64 (3)")
    private static void t1_sort3Has64Bits() {
        sort(3, Long.MAX_VALUE);
    }

    @Sentence(in = "==== 1.", says = "with sign; what is written is cut to these.")
    private static void t1_writtenIsCut() {
        long[] due = {(byte) 0xf0, (short) 0xdef0, 0x9abcdef0, 0x1234_5678_9abc_def0L};
        for (int sort = 0; sort < 4; sort++) {
            PaperBread x = new PaperBread();
            x.tray(0, sort, 1);
            x.write(0, 0, 0x1234_5678_9abc_def0L);
            Check.fine(x, "cut to sort " + sort, x.read(0, 0), due[sort]);
        }
    }

    // ---- Terms: FRACTIONS

    @Sentence(in = "==== 4.", says = "FRACTIONS are told by top() and bottom() without a common divisor")
    private static void t4_fractionsWithoutCommonDivisor() {
        PaperBread x = Check.of("person a;person b;oven o rain 8;loaf l by a in o on 0 slices 12 flour 0;"
                + "promise 9 of l from a to b;");
        // b GETS 9 dry, 3 wet: (8 * 9 + 8 * 3) / 16 is 6; by the 9 that it HOLDS 2 by 3.
        Check.fraction(x, "mean(1, 0, 0)", x.mean(1, 0, 0), 6, 1);
        Check.fraction(x, "mean(1, 0, 1)", x.mean(1, 0, 1), 2, 3);
    }

    @Sentence(in = "==== 4.", says = "the bottom above 0; 0 is 0 by 1.")
    private static void t4_zeroIs0By1() {
        PaperBread x = Edges.rich();
        Check.fraction(x, "mean of one who GETS nothing", x.mean(1, 0, 0), 0, 1);
    }

    // ---- Terms: STATUS

    @Sentence(in = "==== 5.", says = "STATUS of a call is the first of these that holds:")
    private static void t5_theFirstThatHolds() {
        Edges.denied("1 ahead of 5", x -> x.tray(4, 0, 61), 1);
        Edges.refused("1 ahead of 2", x -> x.keeps(9, 4, 1), 1);
        Edges.refused("2 ahead of 3", x -> x.keeps(9, 3, 1), 2);
        Edges.refused("2 ahead of 5", x -> x.person(3, 9), 2);
        Edges.refused("3 ahead of 4", x -> x.read(3, -1), 3);
        Edges.refused("4 ahead of 5", x -> x.auction(0, 9, 0), 4);
        Edges.refused("5 ahead of 8", x -> x.first(1, 1, 3), 5);
        Edges.refused("5 ahead of 9", x -> x.make(0, 3, 0, 1, 0), 5);
    }

    @Sentence(in = "==== 5.", says = "1 no such TRAY (or sort).")
    private static void t5_1NoSuchTrayOrSort() {
        Edges.refused("read(4, 0)", x -> x.read(4, 0), 1);
        Edges.denied("tray(0, 4, 1)", x -> x.tray(0, 4, 1), 1);
    }

    @Sentence(in = "==== 5.", says = "2 no such person, OVEN, LOAF, PROMISE.")
    private static void t5_2NoSuchThing() {
        Edges.refused("person(3, 0)", x -> x.person(3, 0), 2);
        Edges.refused("loaf(4, 0)", x -> x.loaf(4, 0), 2);
        Edges.refused("promise(5, 0)", x -> x.promise(5, 0), 2);
    }

    @Sentence(in = "==== 5.", says = "3 the TRAY is MISSING.")
    private static void t5_3Missing() {
        Edges.refused("read(3, 0)", x -> x.read(3, 0), 3);
        Edges.denied("write(3, 0, 1)", x -> x.write(3, 0, 1), 3);
        Edges.refused("auction(3, 1, 0)", x -> x.auction(3, 1, 0), 3);
        Edges.refused("keeps(0, 3, 1)", x -> x.keeps(0, 3, 1), 3);
    }

    @Sentence(in = "==== 5.", says = "4 a place that the TRAY has not, or too few numbers.")
    private static void t5_4NoPlaceOrTooFew() {
        Edges.refused("read(0, 5)", x -> x.read(0, 5), 4);
        Edges.refused("a TRAY of no numbers: read(2, 0)", x -> x.read(2, 0), 4);
        Edges.refused("too few: auction(0, 6, 0)", x -> x.auction(0, 6, 0), 4);
        Edges.refused("too few: keeps(0, 0, 6)", x -> x.keeps(0, 0, 6), 4);
        Edges.denied("too few: pour(0, 0, 0, 0, 6)", x -> x.pour(0, 0, 0, 0, 6), 4);
    }

    @Sentence(in = "==== 5.", says = "5 a number that can't be.")
    private static void t5_5NumberThatCantBe() {
        Edges.refused("many(7)", x -> x.many(7), 5);
        Edges.refused("pass(0)", x -> x.pass(0), 5);
    }

    @Sentence(in = "==== 5.", says = "6 below 0 (a TRAY's length).")
    private static void t5_6LengthBelow0() {
        Edges.denied("tray(0, 0, -1)", x -> x.tray(0, 0, -1), 6);
        Edges.denied("pour(0, 0, 0, 0, -1)", x -> x.pour(0, 0, 0, 0, -1), 6);
    }

    @Sentence(in = "==== 5.", says = "7 one too many.")
    private static void t5_7OneTooMany() {
        Edges.refused("a fourth MARK", Edges.rich(PaperBread::mark), PaperBread::mark, 7);
    }

    @Sentence(in = "==== 5.", says = "8 there is none.")
    private static void t5_8ThereIsNone() {
        Edges.refused("line(0, 2)", x -> x.line(0, 2), 8);
    }

    @Sentence(in = "==== 5.", says = "9 it can't be.")
    private static void t5_9ItCantBe() {
        Edges.refused("bake(3) again", x -> x.bake(3), 9);
    }

    /** With 10 the tape is empty and fault() tells of it; all else stays. */
    @Sentence(in = "==== 5.", says = "10 a FAULT.")
    private static void t5_10Fault() {
        PaperBread x = Edges.rich();
        Check.none(x, "town(8): \"person z\"", x.town(8), 10);
        Check.due("fault(0)", x.fault(0), 2);
        PaperBread y = Edges.rich();
        Check.none(y, "days(8)", y.days(8), 10);
        Check.due("fault(0)", y.fault(0), 2);
    }

    @Sentence(in = "==== 5.", says = "11 TRAYS of unlike sorts.")
    private static void t5_11UnlikeSorts() {
        Edges.denied("pour(0, 0, 1, 0, 1)", x -> x.pour(0, 0, 1, 0, 1), 11);
    }

    @Sentence(in = "==== 5.", says = "0 else.")
    private static void t5_0Else() {
        PaperBread x = Edges.rich();
        x.many(9);
        Check.fine(x, "many(0)", x.many(0), 3);
        x.read(9, 9);
        Check.fine(x, "write(0, 0, 1)", x.write(0, 0, 1));
    }

    @Sentence(in = "==== 5.", says = "A call with another STATUS than 0 gives NONE, or false, and changes nothing but STATUS")
    private static void t5_refusedChangesNothing() {
        Edges.denied("write(0, 5, 9)", x -> x.write(0, 5, 9), 4);
        Edges.refused("town(41)", x -> x.town(41), 5);
        Edges.refused("days(-1)", x -> x.days(-1), 5);
        Edges.refused("ring() of none", Edges.rich(x -> {
            x.letGo(2);
            x.letGo(3);
        }), PaperBread::ring, 8);
        Edges.denied("mean(1, 0, 1)", x -> x.mean(1, 0, 1), 8);
        Edges.refused("live(10000)", x -> x.live(10000), 5);
    }

    /** Every call that can be refused, with a wrong number in each place of its arguments. */
    @Sentence(in = "==== 5.", says = "A call with another STATUS than 0 gives NONE, or false, and changes nothing")
    private static void t5_anyCallRefusedChangesNothing() throws ReflectiveOperationException {
        int refused = 0;
        for (Method call : PaperBread.class.getDeclaredMethods()) {
            boolean none = Set.of("status", "fault", "feed", "top", "bottom").contains(call.getName());
            if (!Modifier.isPublic(call.getModifiers()) || none) {
                continue;
            }
            for (int place = 0; place < call.getParameterCount(); place++) {
                for (int wrong : new int[] {-1, MIN, MAX, 10000}) {
                    refused += refuses(call, place, wrong) ? 1 : 0;
                }
            }
        }
        Check.due("calls were refused: " + refused, refused > 200, true);
    }

    private static boolean refuses(Method call, int place, int wrong) throws ReflectiveOperationException {
        Object[] arguments = new Object[call.getParameterCount()];
        for (int i = 0; i < arguments.length; i++) {
            Class<?> type = call.getParameterTypes()[i];
            int number = i == place ? wrong : 0;
            arguments[i] = type == boolean.class ? (Object) true : type == long.class ? (Object) (long) number : number;
        }
        PaperBread x = Edges.rich();
        Object answer = call.invoke(x, arguments);
        if (x.status() == 0) {
            return false;
        }
        String told = call.getName() + Arrays.toString(arguments);
        Check.due(told + " gives NONE or false", answer.equals(false)
                || answer instanceof Number n && n.longValue() == -1, true);
        Edges.unchangedBut(told, Edges::rich, y -> {
            try {
                call.invoke(y, arguments);
            } catch (ReflectiveOperationException e) {
                throw new IllegalStateException(e);
            }
        });
        return true;
    }

    /** The TOWN, the TRAYS, the DAYS and the MARKS stay with 10, but the tape does not. */
    @Sentence(in = "==== 5.", says = "(but town(), days() with 10 the tape, and what fault() tells)")
    private static void t5_butTheTapeAndFault() {
        PaperBread x = Edges.rich();
        Check.due("fault(0) ahead", x.fault(0), 1);
        Check.due("fault(1) ahead", x.fault(1), 7);
        Check.none(x, "town(18)", x.town(18), 10);
        Check.due("fault(0): ; is lacking", x.fault(0), 2);
        Check.due("fault(1)", x.fault(1), 18);
        Check.due("the tape is empty", x.feed(0, 0, 0, 0, 0), 20);
        PaperBread y = Edges.rich();
        Check.none(y, "days(18)", y.days(18), 10);
        Check.due("fault(0): no STEP", y.fault(0), 2);
        Check.due("fault(1)", y.fault(1), 0);
        Check.due("the tape is empty", y.feed(0, 0, 0, 0, 0), 20);
    }

    @Sentence(in = "==== 5.", says = "status(), fault(), feed(), top(), bottom() have none.")
    private static void t5_callsWithoutStatus() {
        PaperBread x = Edges.rich();
        x.bake(3);
        x.fault(0);
        x.fault(9);
        Check.due("status() behind fault()", x.status(), 9);
        for (int i = 0; i < 50; i++) {
            x.feed(1, 2, 3, 4, 5);
        }
        Check.due("status() behind feed()", x.status(), 9);
        x.top();
        x.bottom();
        Check.due("status() behind top() and bottom()", x.status(), 9);
        Check.due("status() behind status()", x.status(), 9);
    }

    // ---- Promise 1

    @Sentence(in = "Promise 1", says = "TRAYS are MISSING")
    private static void p01_traysAreMissing() {
        for (int tray = 0; tray < 4; tray++) {
            PaperBread x = new PaperBread();
            Check.no(x, "write(" + tray + ", 0, 1)", x.write(tray, 0, 1), 3);
        }
    }

    @Sentence(in = "Promise 1", says = "a TOWN of nobody")
    private static void p01_townOfNobody() {
        PaperBread x = new PaperBread();
        for (int what = 0; what < 4; what++) {
            Check.fine(x, "many(" + what + ")", x.many(what), 0);
        }
        Edges.refused("person(0, 0)", PaperBread::new, y -> y.person(0, 0), 2);
        Edges.refused("loaf(0, 0)", PaperBread::new, y -> y.loaf(0, 0), 2);
        Edges.refused("promise(0, 0)", PaperBread::new, y -> y.promise(0, 0), 2);
    }

    @Sentence(in = "Promise 1", says = "DAY 0")
    private static void p01_day0() {
        PaperBread x = new PaperBread();
        Check.fine(x, "many(4)", x.many(4), 0);
        Check.fine(x, "many(5): nothing is BAKED", x.many(5), 0);
        Check.fine(x, "many(6): no OVEN is WET", x.many(6), 0);
    }

    @Sentence(in = "Promise 1", says = "no DAYS' TEXT, MARKS")
    private static void p01_noDaysTextNoMarks() {
        Edges.refused("live(0)", PaperBread::new, x -> x.live(0), 8);
        Edges.refused("back()", PaperBread::new, PaperBread::back, 8);
        PaperBread x = new PaperBread();
        Check.fine(x, "mark() is the first", x.mark(), 1);
    }

    @Sentence(in = "Promise 1", says = "an empty tape")
    private static void p01_emptyTape() {
        Edges.refused("town(1)", PaperBread::new, x -> x.town(1), 5);
        Check.due("feed", new PaperBread().feed(0, 0, 0, 0, 0), 20);
    }

    @Sentence(in = "Promise 1", says = "STATUS 0")
    private static void p01_status0() {
        Check.due("status()", new PaperBread().status(), 0);
    }

    @Sentence(in = "Promise 1", says = "the FRACTION 0 by 1")
    private static void p01_fraction0By1() {
        PaperBread x = new PaperBread();
        Check.due("top()", x.top(), 0);
        Check.due("bottom()", x.bottom(), 1);
    }

    // ---- Promises 2 to 4

    @Sentence(in = "Promise 2", says = "The STATUS of the latest call that has one.")
    private static void p02_statusOfTheLatest() {
        PaperBread x = new PaperBread();
        x.many(7);
        Check.due("status()", x.status(), 5);
        x.person(0, 0);
        Check.due("status()", x.status(), 2);
        x.fault(7);
        Check.due("status() behind one that has none", x.status(), 2);
        x.many(0);
        Check.due("status()", x.status(), 0);
    }

    /** A call that is refused, or tells none, leaves the FRACTION. */
    @Sentence(in = "Promise 3", says = "The top of the FRACTION told latest.")
    private static void p03_topToldLatest() {
        PaperBread x = Edges.rich();
        // ann GETS 7 dry, 5 wet: (12 * 7 + 4 * 5) / 16 is 13 by 2.
        Check.due("top()", x.top(), 13);
        x.mean(0, 0, 2);
        x.mean(0, 2, 0);
        x.odds(0, 0, 0, 1);
        x.holds(0, 0);
        Check.due("top() stays", x.top(), 13);
        x.mean(1, 0, 0);
        Check.due("top() told anew", x.top(), 0);
    }

    @Sentence(in = "Promise 4", says = "Its bottom, above 0.")
    private static void p04_bottomAbove0() {
        PaperBread x = Edges.rich();
        Check.due("bottom()", x.bottom(), 2);
        x.mean(1, 0, 1);
        Check.due("bottom() stays", x.bottom(), 2);
        x.mean(1, 0, 0);
        Check.due("bottom() of 0", x.bottom(), 1);
    }

    // ---- Promise 5

    @Sentence(in = "Promise 5", says = "A TRAY is a row of so many numbers (at most 60; 5)")
    private static void p05_atMost60() {
        PaperBread x = new PaperBread();
        Check.fine(x, "tray(0, 3, 60)", x.tray(0, 3, 60));
        Check.fine(x, "write(0, 59, 7)", x.write(0, 59, 7));
        Check.fine(x, "read(0, 59)", x.read(0, 59), 7);
        Check.none(x, "read(0, 60)", x.read(0, 60), 4);
        Edges.denied("tray(0, 0, 61)", y -> y.tray(0, 0, 61), 5);
        Edges.denied("tray(3, 0, max)", y -> y.tray(3, 0, MAX), 5);
    }

    @Sentence(in = "Promise 5", says = "A TRAY is a row of so many numbers")
    private static void p05_itsRowIsNoOthers() {
        PaperBread x = new PaperBread();
        for (int tray = 0; tray < 4; tray++) {
            x.tray(tray, 0, 60);
            x.write(tray, 0, 10 + tray);
            x.write(tray, 59, 20 + tray);
        }
        for (int tray = 3; tray >= 0; tray--) {
            Check.fine(x, "tray(" + tray + ", 0, 60) anew", x.tray(tray, 0, 60));
            Check.fine(x, "its first", x.read(tray, 0), 0);
            Check.fine(x, "its last", x.read(tray, 59), 0);
            for (int other = 0; other < tray; other++) {
                Check.fine(x, "the first of " + other, x.read(other, 0), 10 + other);
                Check.fine(x, "the last of " + other, x.read(other, 59), 20 + other);
            }
            x.write(tray, 0, 10 + tray);
            x.write(tray, 59, 20 + tray);
            for (int other = 0; other < 4; other++) {
                Check.fine(x, "the first of " + other, x.read(other, 0), 10 + other);
                Check.fine(x, "the last of " + other, x.read(other, 59), 20 + other);
            }
        }
    }

    @Sentence(in = "Promise 5", says = "all 0")
    private static void p05_all0() {
        PaperBread x = new PaperBread();
        x.tray(1, 3, 60);
        for (int i = 0; i < 60; i++) {
            x.write(1, i, -1 - i);
        }
        Check.fine(x, "tray(1, 0, 60) anew", x.tray(1, 0, 60));
        for (int i = 0; i < 60; i++) {
            Check.fine(x, "read(1, " + i + ")", x.read(1, i), 0);
        }
        x.tray(1, 3, 2);
        row(x, "shorter anew", 1, 0, 0);
        x.write(1, 1, 5);
        x.tray(1, 3, 0);
        x.tray(1, 3, 2);
        row(x, "by way of none", 1, 0, 0);
    }

    @Sentence(in = "Promise 5", says = "(1; 5; 6)")
    private static void p05_refusals() {
        for (int no : NO_TRAYS) {
            Edges.denied("tray(" + no + ", 0, 1)", x -> x.tray(no, 0, 1), 1);
            Edges.denied("tray(0, " + no + ", 1)", x -> x.tray(0, no, 1), 1);
        }
        Edges.denied("tray(0, 0, -1)", x -> x.tray(0, 0, -1), 6);
        Edges.denied("tray(0, 0, min)", x -> x.tray(0, 0, MIN), 6);
        Edges.denied("1 ahead of 5", x -> x.tray(-1, 0, 61), 1);
        Edges.denied("1 for the sort ahead of 5", x -> x.tray(0, -1, 61), 1);
        Edges.denied("1 ahead of 6", x -> x.tray(4, 0, -1), 1);
        PaperBread y = new PaperBread();
        Check.fine(y, "tray(0, 0, 0)", y.tray(0, 0, 0));
        Check.none(y, "a TRAY of none is not MISSING", y.read(0, 0), 4);
    }

    // ---- Promises 6 and 7

    @Sentence(in = "Promise 6", says = "A number comes to a place of a TRAY")
    private static void p06_firstAndLastPlace() {
        PaperBread x = rows(3, 3).get();
        Check.fine(x, "write(0, 0, 7)", x.write(0, 0, 7));
        Check.fine(x, "write(0, 2, 9)", x.write(0, 2, 9));
        row(x, "first and last", 0, 7, 2, 9);
        row(x, "no other TRAY", 1, 0, 0, 0);
    }

    @Sentence(in = "Promise 6", says = "(1; 3; 4)")
    private static void p06_refusals() {
        for (int no : NO_TRAYS) {
            Edges.denied("write(" + no + ", 0, 1)", x -> x.write(no, 0, 1), 1);
        }
        Edges.denied("write(3, 0, 1)", x -> x.write(3, 0, 1), 3);
        for (int place : new int[] {-1, 5, 60, MIN, MAX}) {
            Edges.denied("write(0, " + place + ", 1)", x -> x.write(0, place, 1), 4);
        }
        Edges.denied("a TRAY of none: write(2, 0, 1)", x -> x.write(2, 0, 1), 4);
        Edges.denied("1 ahead of 4", x -> x.write(4, -1, 1), 1);
        Edges.denied("3 ahead of 4", x -> x.write(3, -1, 1), 3);
    }

    @Sentence(in = "Promise 7", says = "The number in a place of a TRAY; STATUS tells NONE from -1")
    private static void p07_statusTellsNoneFromMinus1() {
        PaperBread x = Edges.rich();
        Check.fine(x, "read(0, 4) is -1", x.read(0, 4), -1);
        Check.none(x, "read(0, 5) is NONE", x.read(0, 5), 4);
        Check.fine(x, "read(0, 0)", x.read(0, 0), 3);
    }

    @Sentence(in = "Promise 7", says = "(1; 3; 4)")
    private static void p07_refusals() {
        for (int no : NO_TRAYS) {
            Edges.refused("read(" + no + ", 0)", x -> x.read(no, 0), 1);
        }
        Edges.refused("read(3, 0)", x -> x.read(3, 0), 3);
        for (int place : new int[] {-1, 5, 60, MIN, MAX}) {
            Edges.refused("read(0, " + place + ")", x -> x.read(0, place), 4);
        }
        Edges.refused("a TRAY of none: read(2, 0)", x -> x.read(2, 0), 4);
        Edges.refused("1 ahead of 4", x -> x.read(4, -1), 1);
        Edges.refused("3 ahead of 4", x -> x.read(3, -1), 3);
    }

    // ---- Promise 8

    @Sentence(in = "Promise 8", says = "So many numbers from place i on of a TRAY come to place j on of another one, or the same, as they were:")
    private static void p08_asTheyWere() {
        PaperBread x = rows(5, 5).get();
        Check.fine(x, "pour(0, 0, 1, 0, 5)", x.pour(0, 0, 1, 0, 5));
        row(x, "all of it", 1, 1, 2, 3, 4, 5);
        row(x, "from there", 0, 1, 2, 3, 4, 5);
        Check.fine(x, "pour(0, 0, 0, 1, 4)", x.pour(0, 0, 0, 1, 4));
        row(x, "on within the same", 0, 1, 1, 2, 3, 4);
        Check.fine(x, "pour(1, 1, 1, 0, 4)", x.pour(1, 1, 1, 0, 4));
        row(x, "back within the same", 1, 2, 3, 4, 5, 5);
        Check.fine(x, "pour(0, 4, 1, 4, 1)", x.pour(0, 4, 1, 4, 1));
        row(x, "the last place alone", 1, 2, 3, 4, 5, 4);
        Check.fine(x, "pour(0, 0, 0, 0, 5) to itself", x.pour(0, 0, 0, 0, 5));
        row(x, "to itself", 0, 1, 1, 2, 3, 4);
    }

    /** None may come, from any place on to behind the last. */
    @Sentence(in = "Promise 8", says = "So many numbers from place i on of a TRAY come to place j on")
    private static void p08_noneMayCome() {
        PaperBread x = rows(5, 3).get();
        Check.fine(x, "pour(0, 0, 1, 0, 0)", x.pour(0, 0, 1, 0, 0));
        Check.fine(x, "pour(0, 5, 1, 3, 0)", x.pour(0, 5, 1, 3, 0));
        row(x, "nothing came", 1, 0, 0, 0);
        Edges.denied("pour(0, 6, 1, 0, 0)", rows(5, 3), y -> y.pour(0, 6, 1, 0, 0), 4);
        Edges.denied("pour(0, 0, 1, 4, 0)", rows(5, 3), y -> y.pour(0, 0, 1, 4, 0), 4);
        PaperBread z = rows(0, 0).get();
        Check.fine(z, "between TRAYS of none", z.pour(0, 0, 1, 0, 0));
    }

    @Sentence(in = "Promise 8", says = "1,")
    private static void p08_1NoSuchTray() {
        for (int no : NO_TRAYS) {
            Edges.denied("pour(" + no + ", 0, 0, 0, 1)", x -> x.pour(no, 0, 0, 0, 1), 1);
            Edges.denied("pour(0, 0, " + no + ", 0, 1)", x -> x.pour(0, 0, no, 0, 1), 1);
        }
    }

    @Sentence(in = "Promise 8", says = "3 (either)")
    private static void p08_3Either() {
        Edges.denied("from a MISSING one", x -> x.pour(3, 0, 0, 0, 1), 3);
        Edges.denied("to a MISSING one", x -> x.pour(0, 0, 3, 0, 1), 3);
        Edges.denied("from a MISSING one to itself", x -> x.pour(3, 0, 3, 0, 0), 3);
    }

    @Sentence(in = "Promise 8", says = "11,")
    private static void p08_11UnlikeSorts() {
        Edges.denied("pour(0, 0, 2, 0, 1)", rows(5, 3), x -> x.pour(0, 0, 2, 0, 1), 11);
        Edges.denied("pour(2, 0, 0, 0, 0)", rows(5, 3), x -> x.pour(2, 0, 0, 0, 0), 11);
    }

    @Sentence(in = "Promise 8", says = "6,")
    private static void p08_6Below0() {
        Edges.denied("pour(0, 0, 1, 0, -1)", rows(5, 3), x -> x.pour(0, 0, 1, 0, -1), 6);
        Edges.denied("pour(0, 0, 1, 0, min)", rows(5, 3), x -> x.pour(0, 0, 1, 0, MIN), 6);
    }

    @Sentence(in = "Promise 8", says = "4, asked in this order")
    private static void p08_4NoPlaceOrTooFew() {
        int[][] wrong = {{-1, 0, 1}, {0, -1, 1}, {5, 0, 1}, {0, 3, 1}, {4, 0, 2}, {0, 2, 2}, {0, 0, 4},
            {0, 0, 6}, {MIN, 0, 1}, {0, MIN, 1}, {MAX, 0, 1}, {0, MAX, 1}, {0, 0, MAX}, {1, 1, MAX},
            {MAX, MAX, MAX}, {MIN, MIN, MAX}, {-1, 0, 0}, {0, -1, 0}};
        for (int[] w : wrong) {
            Edges.denied("pour(0, " + w[0] + ", 1, " + w[1] + ", " + w[2] + ")", rows(5, 3),
                    x -> x.pour(0, w[0], 1, w[1], w[2]), 4);
        }
        PaperBread x = rows(5, 3).get();
        Check.fine(x, "pour(0, 2, 1, 0, 3) fits", x.pour(0, 2, 1, 0, 3));
        row(x, "fits", 1, 3, 4, 5);
    }

    @Sentence(in = "Promise 8", says = "1, 3 (either), 11, 6, 4, asked in this order.")
    private static void p08_inThisOrder() {
        Edges.denied("1 ahead of 3", rows(5, 3), x -> x.pour(3, 0, 4, 0, 1), 1);
        Edges.denied("1 ahead of 3 and 6", rows(5, 3), x -> x.pour(4, 0, 3, -1, -1), 1);
        Edges.denied("3 ahead of 6", rows(5, 3), x -> x.pour(0, 0, 3, 0, -1), 3);
        Edges.denied("3 ahead of 4", rows(5, 3), x -> x.pour(3, -1, 0, 0, 1), 3);
        Edges.denied("11 ahead of 6", rows(5, 3), x -> x.pour(0, 0, 2, 0, -1), 11);
        Edges.denied("11 ahead of 4", rows(5, 3), x -> x.pour(0, 9, 2, 0, 1), 11);
        Edges.denied("6 ahead of 4", rows(5, 3), x -> x.pour(0, 9, 1, -1, -1), 6);
    }

    public static void main(String[] args) {
        Edges.run(EdgesTraysTest.class);
    }
}
