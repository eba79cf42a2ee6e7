import java.io.File;
import java.io.PrintWriter;
import java.io.StringWriter;
import java.net.URISyntaxException;
import java.util.ArrayList;
import java.util.HashSet;
import java.util.LinkedHashMap;
import java.util.List;
import java.util.Map;
import java.util.Set;
import java.util.TreeSet;
import java.util.regex.Matcher;
import java.util.regex.Pattern;
import java.util.spi.ToolProvider;

/** Rules 4, 8, 11 and 12 of LANGUAGE.md, as the compiled class shows them. */
public final class BytecodeTest {
    private static final int DEEPEST = 8;
    private static final String CLASS = "PaperBread";
    private static final Pattern TYPE = Pattern.compile("(?:[\\w ]*)\\bclass ([\\w$]+).* \\{");
    private static final Pattern METHOD = Pattern.compile("  (?:[\\w$\\[\\]. ]+ )?([\\w$]+)\\(.*\\);");
    private static final Pattern CALL = Pattern.compile(
            ".*: invoke\\w+ .*// (?:Interface)?Method (?:([\\w$/]+)\\.)?\"?([\\w<>]+)\"?:.*");
    private static final Pattern MAKES = Pattern.compile(
            ".*: (new|newarray|anewarray|multianewarray|invokedynamic)\\b.*");
    private static final Pattern LIBRARY = Pattern.compile(
            "java/lang/Object\\.<init>|java/lang/Math\\.(max|min)|java/lang/System\\.arraycopy"
            + "|java/util/Arrays\\.fill|java/lang/String\\.(length|charAt)");

    /** What each method of the class and of those inside it calls; a constructor is <init>. */
    private static final Map<String, Set<String>> calls = new LinkedHashMap<>();
    /** What of them makes objects or arrays. */
    private static final Set<String> makers = new TreeSet<>();

    private static String disassembled() throws URISyntaxException {
        File room = new File(PaperBread.class.getProtectionDomain().getCodeSource().getLocation().toURI());
        List<String> args = new ArrayList<>(List.of("-c", "-p"));
        for (String name : new TreeSet<>(List.of(room.list()))) {
            if (name.equals(CLASS + ".class") || name.startsWith(CLASS + "$")) {
                args.add(new File(room, name).getPath());
            }
        }
        StringWriter out = new StringWriter();
        int code = ToolProvider.findFirst("javap").orElseThrow()
                .run(new PrintWriter(out), new PrintWriter(System.err), args.toArray(new String[0]));
        Check.due("javap", code, 0);
        return out.toString();
    }

    private static void read(String code) {
        String type = "";
        String method = "";
        for (String line : code.split("\\R")) {
            Matcher typeHere = TYPE.matcher(line);
            Matcher methodHere = METHOD.matcher(line);
            Matcher call = CALL.matcher(line);
            if (typeHere.matches()) {
                type = typeHere.group(1);
            } else if (methodHere.matches()) {
                String name = methodHere.group(1);
                method = type + "." + (name.equals(type) ? "<init>" : name);
                calls.putIfAbsent(method, new TreeSet<>());
            } else if (line.equals("  static {};")) {
                method = type + ".<clinit>";
                calls.putIfAbsent(method, new TreeSet<>());
            } else if (call.matches()) {
                calls.get(method).add((call.group(1) == null ? type : call.group(1)) + "." + call.group(2));
            }
            if (MAKES.matcher(line).matches()) {
                makers.add(method);
            }
        }
    }

    /** How many calls stand open at once below a method, it, too; those open above it are known. */
    private static int depth(String method, Set<String> open) {
        if (!calls.containsKey(method)) {
            return 0;
        }
        boolean isNew = open.add(method);
        Check.due(method + " calls itself", isNew, true);
        if (!isNew) {
            return 1;
        }
        int most = 0;
        for (String called : calls.get(method)) {
            most = Math.max(most, depth(called, open));
        }
        open.remove(method);
        return most + 1;
    }

    private static void onlyTheLibraryThatIsListed() {
        for (Map.Entry<String, Set<String>> method : calls.entrySet()) {
            for (String called : method.getValue()) {
                Check.due(method.getKey() + " may call " + called,
                        calls.containsKey(called) || LIBRARY.matcher(called).matches(), true);
            }
        }
    }

    public static void main(String[] args) throws URISyntaxException {
        read(disassembled());
        Check.due("methods were seen: " + calls.size(), calls.size() > 140, true);
        Check.due("constructors make objects", makers.contains(CLASS + ".<init>"), true);
        for (String method : calls.keySet()) {
            boolean begins = method.startsWith(CLASS + ".");
            int depth = depth(method, new HashSet<>());
            Check.due(method + " goes " + depth + " deep", !begins || depth <= DEEPEST, true);
        }
        for (String maker : makers) {
            Check.due(maker + " makes objects", maker.endsWith("init>"), true);
        }
        onlyTheLibraryThatIsListed();
        Check.end();
    }
}
