import java.nio.charset.StandardCharsets;

/** What the tests share: answers that are due, and texts that are fed. */
final class Check {
    private static int wrong = 0;
    private static int asked = 0;

    private Check() {
    }

    static int wrong() {
        return wrong;
    }

    static int asked() {
        return asked;
    }

    static void due(String call, long got, long want) {
        asked++;
        if (got != want) {
            wrong++;
            System.out.println(call + " answered " + got + ", due is " + want);
        }
    }

    static void due(String call, boolean got, boolean want) {
        due(call, got ? 1 : 0, want ? 1 : 0);
    }

    /** An answer with STATUS 0. */
    static void fine(PaperBread x, String call, long got, long want) {
        due(call, got, want);
        due(call + ": status()", x.status(), 0);
    }

    static void fine(PaperBread x, String call, boolean got) {
        fine(x, call, got ? 1 : 0, 1);
    }

    /** NONE with another STATUS. */
    static void none(PaperBread x, String call, long got, int status) {
        due(call, got, PaperBread.NONE);
        due(call + ": status()", x.status(), status);
    }

    /** False with another STATUS. */
    static void no(PaperBread x, String call, boolean got, int status) {
        due(call, got, false);
        due(call + ": status()", x.status(), status);
    }

    static void fraction(PaperBread x, String call, boolean got, long top, long bottom) {
        fine(x, call, got);
        due(call + ": top()", x.top(), top);
        due(call + ": bottom()", x.bottom(), bottom);
    }

    /** Feeds a text with blanks behind it; how many bytes it has without them. */
    static int feed(PaperBread x, String text) {
        byte[] bytes = text.getBytes(StandardCharsets.ISO_8859_1);
        for (int at = 0; at < bytes.length; at += 20) {
            int[] five = new int[5];
            for (int i = 0; i < 20; i++) {
                int b = at + i < bytes.length ? bytes[at + i] & 255 : 32;
                five[i / 4] = five[i / 4] << 8 | b;
            }
            x.feed(five[0], five[1], five[2], five[3], five[4]);
        }
        return bytes.length;
    }

    static int town(PaperBread x, String text) {
        return x.town(feed(x, text));
    }

    static int days(PaperBread x, String text) {
        return x.days(feed(x, text));
    }

    /** A new object with a TOWN that must be taken. */
    static PaperBread of(String text) {
        PaperBread x = new PaperBread();
        due("town " + text, town(x, text) >= 0, true);
        return x;
    }

    /** As above, and with DAYS that must be taken. */
    static PaperBread of(String text, String days) {
        PaperBread x = of(text);
        due("days " + days, days(x, days) >= 0, true);
        return x;
    }

    static void townFault(String text, int kind, int place) {
        PaperBread x = new PaperBread();
        none(x, "town " + text, town(x, text), 10);
        due("fault(0) of " + text, x.fault(0), kind);
        due("fault(1) of " + text, x.fault(1), place);
    }

    static void daysFault(String town, String text, int kind, int place) {
        PaperBread x = of(town);
        none(x, "days " + text, days(x, text), 10);
        due("fault(0) of " + text, x.fault(0), kind);
        due("fault(1) of " + text, x.fault(1), place);
    }

    static void end() {
        System.out.println(wrong == 0
                ? asked + " answers are as due"
                : wrong + " of " + asked + " answers are not as due");
        if (wrong != 0 || asked == 0) {
            System.exit(1);
        }
    }
}
