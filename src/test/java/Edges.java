import java.lang.reflect.InvocationTargetException;
import java.lang.reflect.Method;
import java.util.ArrayList;
import java.util.Arrays;
import java.util.Comparator;
import java.util.List;
import java.util.Map;
import java.util.function.Consumer;
import java.util.function.Predicate;
import java.util.function.Supplier;
import java.util.function.ToLongFunction;

/** What the tests of single sentences share: a busy object, refused calls, and their runner. */
final class Edges {
    static final int MIN = Integer.MIN_VALUE;
    static final int MAX = Integer.MAX_VALUE;

    /** PROMISES 0 to 2 hand rye on and round; ink is of PAPER; bob and cid promised too much. */
    static final String TOWN = "person ann purse 20;person bob purse 5;person cid;"
            + "oven hot rain 4;oven old rain 16;"
            + "loaf rye by ann in hot on 2 slices 11 flour 30;loaf oat by bob in old on 1 slices 7 flour 20;"
            + "loaf ink by cid on 3 slices 5 flour 0;loaf bun by ann in hot on 0 slices 3 flour 10;"
            + "promise 6 of rye from ann to bob for 4;promise 8 of rye from bob to cid;"
            + "promise 2 of rye from cid to ann;promise 9 of ink from cid to bob for 2;"
            + "promise 1 of oat from bob to ann;";

    /** The parts of an object that are looked at one by one, so that 512 calls are enough. */
    static final int FAULT = 0;
    static final int FRACTION = 1;
    static final int TOLD = 2;
    static final int TRAYS = 3;
    static final int PEOPLE = 4;
    static final int TAPE = 5;
    static final int DAYS = 6;
    static final int MARKS = 7;

    private Edges() {
    }

    /**
     * An object that has something of everything: a TOWN on DAY 1 with the LOAVES 1 and 3 BAKED
     * and PROMISE 4 let go, DAYS, two MARKS, TRAYS of three sorts (3 is MISSING), a FRACTION,
     * a RING, a FAULT, a tape.
     */
    static PaperBread rich() {
        PaperBread x = Check.of(TOWN, "wait 1; bake oat; eat bob 2;");
        x.mark();
        x.bake(3);
        x.letGo(4);
        x.ring();
        x.mean(0, 0, 0);
        x.mark();
        x.live(1);
        x.tray(0, 0, 5);
        x.write(0, 0, 3);
        x.write(0, 4, -1);
        x.tray(1, 1, 9);
        x.write(1, 8, 300);
        x.tray(2, 3, 0);
        Check.town(x, "person !");
        Check.feed(x, "person zed purse 7;");
        return x;
    }

    /** The busy object, and what is done with it then. */
    static Supplier<PaperBread> rich(Consumer<PaperBread> then) {
        return () -> {
            PaperBread x = rich();
            then.accept(x);
            return x;
        };
    }

    /** A new object with a TOWN, and what is done with it then. */
    static Supplier<PaperBread> of(String town, Consumer<PaperBread> then) {
        return () -> {
            PaperBread x = Check.of(town);
            then.accept(x);
            return x;
        };
    }

    // ---- refused calls

    static void refused(String call, ToLongFunction<PaperBread> how, int status) {
        refused(call, Edges::rich, how, status);
    }

    /** NONE with a STATUS, and nothing else is changed. */
    static void refused(String call, Supplier<PaperBread> at, ToLongFunction<PaperBread> how, int status) {
        PaperBread x = at.get();
        Check.none(x, call, how.applyAsLong(x), status);
        unchangedBut(call, at, how::applyAsLong);
    }

    static void denied(String call, Predicate<PaperBread> how, int status) {
        denied(call, Edges::rich, how, status);
    }

    /** False with a STATUS, and nothing else is changed. */
    static void denied(String call, Supplier<PaperBread> at, Predicate<PaperBread> how, int status) {
        PaperBread x = at.get();
        Check.no(x, call, how.test(x), status);
        unchangedBut(call, at, how::test);
    }

    /** A text that is no TOWN: its FAULT is told, the tape is empty, and nothing else is changed. */
    static void townFault(String text, int kind, int place) {
        faulty("town", text, x -> Check.town(x, text), kind, place);
    }

    /** A text that is no DAYS of the busy object's TOWN, likewise. */
    static void daysFault(String text, int kind, int place) {
        faulty("days", text, x -> Check.days(x, text), kind, place);
    }

    private static void faulty(String taker, String text, ToLongFunction<PaperBread> how, int kind, int place) {
        String call = taker + " of " + text;
        PaperBread x = blank();
        Check.none(x, call, how.applyAsLong(x), 10);
        Check.due(call + ": fault(0)", x.fault(0), kind);
        Check.due(call + ": fault(1)", x.fault(1), place);
        unchangedBut(call, Edges::blank, how::applyAsLong, FAULT);
    }

    /** The busy object, its tape empty. */
    static PaperBread blank() {
        PaperBread x = rich();
        x.town(1);
        return x;
    }

    /** Of two objects made alike the one with the call looks as the one without, but for STATUS. */
    static void unchangedBut(String call, Supplier<PaperBread> at, Consumer<PaperBread> how, int... but) {
        for (int part = FAULT; part <= MARKS; part++) {
            int p = part;
            if (Arrays.stream(but).anyMatch(b -> b == p)) {
                continue;
            }
            PaperBread with = at.get();
            PaperBread without = at.get();
            how.accept(with);
            List<Long> seen = look(with, part);
            List<Long> due = look(without, part);
            Check.due(call + " changes part " + part + ": " + seen + ", due is " + due,
                    seen.equals(due), true);
        }
    }

    // ---- all that can be seen of an object

    private static List<Long> look(PaperBread x, int part) {
        List<Long> seen = new ArrayList<>();
        switch (part) {
            case FAULT -> seen.addAll(List.of((long) x.fault(0), (long) x.fault(1)));
            case FRACTION -> seen.addAll(List.of(x.top(), x.bottom()));
            case TOLD -> lookAtWhatIsTold(x, seen);
            case TRAYS -> lookAtTrays(x, seen);
            case PEOPLE -> lookAtTown(x, seen);
            case TAPE -> lookAtTape(x, seen);
            case DAYS -> lookAtDays(x, seen);
            default -> lookAtMarks(x, seen);
        }
        return seen;
    }

    private static void note(PaperBread x, List<Long> seen, long answer) {
        seen.add(answer);
        seen.add((long) x.status());
    }

    private static void lookAtWhatIsTold(PaperBread x, List<Long> seen) {
        for (int k = 0; k < 9; k++) {
            note(x, seen, x.ringAt(k));
        }
        for (int what = 0; what < 5; what++) {
            note(x, seen, x.lived(what));
        }
    }

    /** Sorts are seen by what a write is cut to, or, in an empty TRAY, by a pour. */
    private static void lookAtTrays(PaperBread x, List<Long> seen) {
        for (int tray = 0; tray < 4; tray++) {
            for (int place = 0; place <= 60; place++) {
                note(x, seen, x.read(tray, place));
                if (x.status() != 0) {
                    break;
                }
            }
            for (int other = 0; other < tray; other++) {
                x.pour(tray, 0, other, 0, 0);
                seen.add((long) x.status());
            }
        }
        for (int tray = 0; tray < 4; tray++) {
            x.write(tray, 0, 0x1234_5678_9abc_def0L);
            note(x, seen, x.read(tray, 0));
        }
    }

    private static void lookAtTown(PaperBread x, List<Long> seen) {
        lookAtPeople(x, seen);
        int loaves = x.many(2);
        for (int loaf = 0; loaf < loaves; loaf++) {
            for (int what = 0; what < 6; what++) {
                note(x, seen, x.loaf(loaf, what));
            }
        }
        int promises = x.many(3);
        for (int promise = 0; promise < promises; promise++) {
            for (int what = 0; what < 6; what++) {
                seen.add((long) x.promise(promise, what));
            }
        }
    }

    private static void lookAtPeople(PaperBread x, List<Long> seen) {
        for (int what = 0; what < 7; what++) {
            seen.add((long) x.many(what));
        }
        int people = x.many(0);
        for (int person = 0; person < people; person++) {
            for (int what = 0; what < 3; what++) {
                seen.add((long) x.person(person, what));
            }
        }
    }

    private static void lookAtTape(PaperBread x, List<Long> seen) {
        int fed = x.feed(0x20202020, 0x20202020, 0x20202020, 0x20202020, 0x20202020);
        seen.add((long) fed);
        note(x, seen, x.town(fed < 0 ? 900 : fed));
        seen.addAll(List.of((long) x.fault(0), (long) x.fault(1)));
        lookAtPeople(x, seen);
    }

    /** The DAYS as they are lived, then the NAMES by another DAYS' TEXT. */
    private static void lookAtDays(PaperBread x, List<Long> seen) {
        note(x, seen, x.live(7));
        lookAtPeople(x, seen);
        x.days(0);
        note(x, seen, Check.days(x, "eat ann 1;eat bob 1;eat cid 1;bake rye;bake oat;bake ink;bake bun;"
                + "when wet hot;end;when wet old;end;"));
        seen.addAll(List.of((long) x.fault(0), (long) x.fault(1)));
    }

    private static void lookAtMarks(PaperBread x, List<Long> seen) {
        for (int i = 0; i < 4; i++) {
            note(x, seen, x.back());
            lookAtPeople(x, seen);
            note(x, seen, x.live(5));
            lookAtPeople(x, seen);
        }
    }

    // ---- the runner

    /** p05_ for Promise 5, t1_ for ==== 1. of the Terms, t0_ for What it is. */
    static String prefix(String section) {
        if (section.startsWith("Promise ")) {
            return String.format("p%02d_", Integer.parseInt(section.substring(8)));
        }
        return section.startsWith("==== ") ? "t" + section.charAt(5) + "_" : "t0_";
    }

    /** The tests of a class by their names. */
    static List<Method> testsOf(Class<?> tests) {
        return Arrays.stream(tests.getDeclaredMethods())
                .filter(m -> m.isAnnotationPresent(Sentence.class))
                .sorted(Comparator.comparing(Method::getName))
                .toList();
    }

    static void run(Class<?> tests) {
        Map<String, String> sections = Document.sections();
        for (Method test : testsOf(tests)) {
            runTest(test, sections);
        }
        for (Method m : tests.getDeclaredMethods()) {
            boolean named = m.getName().matches("[pt]\\d+_.*") && !m.isSynthetic();
            Check.due(m.getName() + " has a Sentence", m.isAnnotationPresent(Sentence.class), named);
        }
        Check.end();
    }

    private static void runTest(Method test, Map<String, String> sections) {
        Sentence sentence = test.getAnnotation(Sentence.class);
        String where = sentence.in() + ": \"" + sentence.says() + "\" (" + test.getName() + ")";
        String section = sections.getOrDefault(sentence.in(), "");
        Check.due("the document says " + where, section.contains(Document.plain(sentence.says())), true);
        Check.due("the name tells " + where, test.getName().startsWith(prefix(sentence.in())), true);
        int asked = Check.asked();
        int wrong = Check.wrong();
        try {
            test.setAccessible(true);
            test.invoke(null);
        } catch (InvocationTargetException | IllegalAccessException e) {
            Check.due(where + " threw " + (e.getCause() == null ? e : e.getCause()), true, false);
        }
        Check.due(where + " asks something", Check.asked() > asked, true);
        if (Check.wrong() > wrong) {
            System.out.println("    broken: " + where);
        }
    }
}
