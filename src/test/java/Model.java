import java.util.ArrayList;
import java.util.Arrays;
import java.util.HashMap;
import java.util.List;
import java.util.Map;

/**
 * A second PaperBread, written from the document alone by the slowest and plainest ways
 * (every SLICE dealt one by one, every row of PROMISES walked), to hold the class against.
 */
public final class Model {
    private static final List<String> KEYWORDS = List.of(
            "person", "purse", "oven", "rain", "loaf", "by", "in", "on", "slices", "flour",
            "promise", "of", "from", "to", "for", "bake", "wait", "eat", "pay", "break", "when",
            "day", "has", "baked", "wet", "loop", "end", "stop");

    private record Token(char kind, String text, int place) {
    }

    /** Carries the kind and the place of a FAULT out of a text. */
    private static final class Fault extends RuntimeException {
        private static final long serialVersionUID = 1L;
        final int kind;
        final int place;

        Fault(int kind, int place) {
            this.kind = kind;
            this.place = place;
        }
    }

    private static final class Person {
        String name;
        int purse;
        int own;
        int face;
    }

    private static final class Oven {
        String name;
        int rain;
        boolean wet;
    }

    private static final class Loaf {
        String name;
        int baker;
        int oven;
        int day;
        int slices;
        int flour;
        int came = -1;
    }

    private static final class Promise {
        int slices;
        int loaf;
        int from;
        int to;
        int price;
        boolean gone;
    }

    private static final class Step {
        String word;
        String test;
        char sign;
        int[] n = new int[5];
        List<Step> body = new ArrayList<>();
    }

    private static final class State {
        List<Person> people = new ArrayList<>();
        List<Oven> ovens = new ArrayList<>();
        List<Loaf> loaves = new ArrayList<>();
        List<Promise> promises = new ArrayList<>();
        int day;
        List<Step> days;

        State copy() {
            State c = new State();
            for (Person p : people) {
                Person q = new Person();
                q.name = p.name;
                q.purse = p.purse;
                q.own = p.own;
                q.face = p.face;
                c.people.add(q);
            }
            for (Oven o : ovens) {
                Oven q = new Oven();
                q.name = o.name;
                q.rain = o.rain;
                q.wet = o.wet;
                c.ovens.add(q);
            }
            for (Loaf l : loaves) {
                Loaf q = new Loaf();
                q.name = l.name;
                q.baker = l.baker;
                q.oven = l.oven;
                q.day = l.day;
                q.slices = l.slices;
                q.flour = l.flour;
                q.came = l.came;
                c.loaves.add(q);
            }
            for (Promise p : promises) {
                Promise q = new Promise();
                q.slices = p.slices;
                q.loaf = p.loaf;
                q.from = p.from;
                q.to = p.to;
                q.price = p.price;
                q.gone = p.gone;
                c.promises.add(q);
            }
            c.day = day;
            c.days = days;
            return c;
        }
    }

    private State s = new State();
    private final List<State> marks = new ArrayList<>();
    private final long[][] trays = new long[4][];
    private final int[] sorts = new int[4];
    private final StringBuilder tape = new StringBuilder();
    private int status;
    private long top;
    private long bottom = 1;
    private int[] fault;
    private List<Integer> ring = new ArrayList<>();
    private int[] lived;

    // what one run of DAYS counts
    private int seed;
    private int done;
    private int[] tally;

    private int no(int why) {
        status = why;
        return -1;
    }

    private boolean not(int why) {
        status = why;
        return false;
    }

    private int yes(int v) {
        status = 0;
        return v;
    }

    private boolean yes() {
        status = 0;
        return true;
    }

    public int status() {
        return status;
    }

    public long top() {
        return top;
    }

    public long bottom() {
        return bottom;
    }

    private void fraction(long a, long b) {
        long divisor = 1;
        for (long d = 1; d <= b; d++) {
            if (a % d == 0 && b % d == 0) {
                divisor = d;
            }
        }
        top = a / divisor;
        bottom = b / divisor;
    }

    public boolean tray(int tray, int sort, int many) {
        if (tray < 0 || tray > 3 || sort < 0 || sort > 3) {
            return not(1);
        }
        if (many > 60) {
            return not(5);
        }
        if (many < 0) {
            return not(6);
        }
        trays[tray] = new long[many];
        sorts[tray] = sort;
        return yes();
    }

    public boolean write(int tray, int place, long v) {
        if (tray < 0 || tray > 3) {
            return not(1);
        }
        if (trays[tray] == null) {
            return not(3);
        }
        if (place < 0 || place >= trays[tray].length) {
            return not(4);
        }
        int bits = 8 << sorts[tray];
        trays[tray][place] = v << 64 - bits >> 64 - bits;
        return yes();
    }

    public long read(int tray, int place) {
        if (tray < 0 || tray > 3) {
            return no(1);
        }
        if (trays[tray] == null) {
            return no(3);
        }
        if (place < 0 || place >= trays[tray].length) {
            return no(4);
        }
        status = 0;
        return trays[tray][place];
    }

    public boolean pour(int tray, int i, int to, int j, int many) {
        if (tray < 0 || tray > 3 || to < 0 || to > 3) {
            return not(1);
        }
        if (trays[tray] == null || trays[to] == null) {
            return not(3);
        }
        if (sorts[tray] != sorts[to]) {
            return not(11);
        }
        if (many < 0) {
            return not(6);
        }
        if (i < 0 || (long) i + many > trays[tray].length || j < 0
                || (long) j + many > trays[to].length) {
            return not(4);
        }
        long[] row = Arrays.copyOfRange(trays[tray], i, i + many);
        for (int k = 0; k < many; k++) {
            trays[to][j + k] = row[k];
        }
        return yes();
    }

    public int feed(int a, int b, int c, int d, int e) {
        if (tape.length() + 20 > 900) {
            return -1;
        }
        for (int v : new int[] {a, b, c, d, e}) {
            tape.append((char) (v >>> 24)).append((char) (v >>> 16 & 255));
            tape.append((char) (v >>> 8 & 255)).append((char) (v & 255));
        }
        return tape.length();
    }

    // ---- texts

    private List<Token> tokens;
    private int at;
    private int textLength;

    private void cut(String text) {
        tokens = new ArrayList<>();
        at = 0;
        textLength = text.length();
        int i = 0;
        while (i < text.length()) {
            char c = text.charAt(i);
            int from = i;
            if (c == 10 || c == 32) {
                i++;
            } else if (c >= 'a' && c <= 'z') {
                while (i < text.length() && text.charAt(i) >= 'a' && text.charAt(i) <= 'z') {
                    i++;
                }
                tokens.add(new Token('w', text.substring(from, i), from));
            } else if (c >= '0' && c <= '9') {
                while (i < text.length() && text.charAt(i) >= '0' && text.charAt(i) <= '9') {
                    i++;
                }
                tokens.add(new Token(i - from > 4 ? '?' : 'n', text.substring(from, i), from));
            } else {
                i++;
                tokens.add(new Token(";<>=".indexOf(c) >= 0 ? 's' : '?', "" + c, from));
            }
        }
    }

    private Token here() {
        return at < tokens.size() ? tokens.get(at) : new Token('e', "", textLength);
    }

    private Fault bad() {
        return new Fault(here().kind == '?' ? 1 : 2, here().place);
    }

    private boolean is(String text) {
        return here().kind != '?' && here().text.equals(text);
    }

    private void want(String text) {
        if (!is(text)) {
            throw bad();
        }
        at++;
    }

    private int wantNumber(int least, int most) {
        if (here().kind != 'n') {
            throw bad();
        }
        int v = Integer.parseInt(here().text);
        if (v < least || v > most) {
            throw new Fault(4, here().place);
        }
        at++;
        return v;
    }

    private String wantName() {
        if (here().kind != 'w' || here().text.length() > 8 || KEYWORDS.contains(here().text)) {
            throw bad();
        }
        return here().text;
    }

    private static Map<String, String> things(State t) {
        Map<String, String> all = new HashMap<>();
        for (int i = 0; i < t.people.size(); i++) {
            all.put(t.people.get(i).name, "p" + i);
        }
        for (int i = 0; i < t.ovens.size(); i++) {
            all.put(t.ovens.get(i).name, "o" + i);
        }
        for (int i = 0; i < t.loaves.size(); i++) {
            all.put(t.loaves.get(i).name, "l" + i);
        }
        return all;
    }

    private String wantNew(State t) {
        String name = wantName();
        if (things(t).containsKey(name)) {
            throw new Fault(3, here().place);
        }
        at++;
        return name;
    }

    private int wantKnown(State t, char kind) {
        String thing = things(t).get(wantName());
        if (thing == null || thing.charAt(0) != kind) {
            throw new Fault(3, here().place);
        }
        at++;
        return Integer.parseInt(thing.substring(1));
    }

    private int perhaps(String word, int most) {
        if (!is(word)) {
            return 0;
        }
        at++;
        return wantNumber(0, most);
    }

    private int[] wantPromise(State t) {
        int[] n = new int[5];
        want("promise");
        n[0] = wantNumber(1, 99);
        want("of");
        n[1] = wantKnown(t, 'l');
        want("from");
        n[2] = wantKnown(t, 'p');
        want("to");
        int place = here().place;
        n[3] = wantKnown(t, 'p');
        if (n[2] == n[3]) {
            throw new Fault(5, place);
        }
        n[4] = perhaps("for", 999);
        want(";");
        return n;
    }

    private static void hand(State t, int[] n) {
        Promise p = new Promise();
        p.slices = n[0];
        p.loaf = n[1];
        p.from = n[2];
        p.to = n[3];
        p.price = n[4];
        t.promises.add(p);
        t.people.get(p.from).purse += p.price;
        t.people.get(p.to).purse -= p.price;
    }

    private void room(int size, int most) {
        if (size >= most) {
            throw new Fault(6, here().place);
        }
        at++;
    }

    private void part(State t) {
        if (is("person")) {
            room(t.people.size(), 8);
            Person p = new Person();
            p.name = wantNew(t);
            p.purse = perhaps("purse", 999);
            want(";");
            t.people.add(p);
        } else if (is("oven")) {
            room(t.ovens.size(), 4);
            Oven o = new Oven();
            o.name = wantNew(t);
            o.rain = perhaps("rain", 16);
            want(";");
            t.ovens.add(o);
        } else if (is("loaf")) {
            room(t.loaves.size(), 8);
            Loaf l = new Loaf();
            l.name = wantNew(t);
            want("by");
            l.baker = wantKnown(t, 'p');
            l.oven = -1;
            if (is("in")) {
                at++;
                l.oven = wantKnown(t, 'o');
            }
            want("on");
            l.day = wantNumber(0, 99);
            want("slices");
            l.slices = wantNumber(1, 99);
            want("flour");
            l.flour = wantNumber(0, 999);
            want(";");
            t.loaves.add(l);
        } else if (is("promise")) {
            room(t.promises.size(), 16);
            at--;
            hand(t, wantPromise(t));
        } else {
            throw bad();
        }
    }

    public int town(int n) {
        if (n < 0 || n > tape.length()) {
            return no(5);
        }
        cut(tape.substring(0, n));
        tape.setLength(0);
        State t = new State();
        try {
            while (here().kind != 'e') {
                part(t);
            }
        } catch (Fault f) {
            fault = new int[] {f.kind, f.place};
            return no(10);
        }
        fault = new int[] {0, -1};
        s = t;
        return yes(s.loaves.size());
    }

    private int stepsRead;

    private List<Step> steps(int within) {
        List<Step> all = new ArrayList<>();
        while (here().kind != 'e' && !is("end")) {
            all.add(step(within));
        }
        return all;
    }

    private Step step(int within) {
        Step st = new Step();
        st.word = here().text;
        if (!List.of("promise", "break", "bake", "wait", "eat", "pay", "when", "loop", "stop")
                .contains(st.word)) {
            throw bad();
        }
        boolean block = is("when") || is("loop");
        if (stepsRead == 30) {
            throw new Fault(6, here().place);
        }
        if (block && within == 3) {
            throw new Fault(7, here().place);
        }
        stepsRead++;
        if (is("promise")) {
            st.n = wantPromise(s);
            return st;
        }
        at++;
        switch (st.word) {
            case "break" -> st.n[0] = wantNumber(0, 39);
            case "bake" -> st.n[0] = wantKnown(s, 'l');
            case "wait" -> st.n[0] = wantNumber(1, 9);
            case "loop" -> st.n[0] = wantNumber(1, 99);
            case "eat" -> {
                st.n[0] = wantKnown(s, 'p');
                st.n[1] = wantNumber(1, 99);
            }
            case "pay" -> {
                st.n[0] = wantKnown(s, 'p');
                st.n[1] = wantKnown(s, 'p');
                st.n[2] = wantNumber(1, 999);
            }
            case "when" -> test(st);
            default -> {
            }
        }
        want(";");
        if (block) {
            st.body = steps(within + 1);
            want("end");
            want(";");
        }
        return st;
    }

    private void test(Step st) {
        st.test = here().text;
        if (!List.of("day", "has", "baked", "wet").contains(st.test)) {
            throw bad();
        }
        at++;
        switch (st.test) {
            case "baked" -> st.n[0] = wantKnown(s, 'l');
            case "wet" -> st.n[0] = wantKnown(s, 'o');
            default -> {
                boolean has = st.test.equals("has");
                if (has) {
                    st.n[0] = wantKnown(s, 'p');
                }
                if (!is("<") && !is(">") && !is("=")) {
                    throw bad();
                }
                st.sign = here().text.charAt(0);
                at++;
                st.n[1] = wantNumber(0, has ? 999 : 99);
            }
        }
    }

    public int days(int n) {
        if (n < 0 || n > tape.length() || n > 300) {
            return no(5);
        }
        cut(tape.substring(0, n));
        tape.setLength(0);
        stepsRead = 0;
        List<Step> all;
        try {
            all = steps(0);
            if (here().kind != 'e') {
                throw bad();
            }
        } catch (Fault f) {
            fault = new int[] {f.kind, f.place};
            return no(10);
        }
        fault = new int[] {0, -1};
        s.days = all;
        return yes(stepsRead);
    }

    public int fault(int what) {
        return fault == null || what < 0 || what > 1 ? -1 : fault[what];
    }

    public int many(int what) {
        int baked = 0;
        for (int l = 0; l < s.loaves.size(); l++) {
            baked += s.loaves.get(l).came >= 0 ? 1 << l : 0;
        }
        int wet = 0;
        for (int o = 0; o < s.ovens.size(); o++) {
            wet += s.ovens.get(o).wet ? 1 << o : 0;
        }
        int[] all = {s.people.size(), s.ovens.size(), s.loaves.size(), s.promises.size(), s.day,
            baked, wet};
        return what < 0 || what >= all.length ? no(5) : yes(all[what]);
    }

    private boolean noPerson(int p) {
        return p < 0 || p >= s.people.size();
    }

    private boolean noLoaf(int l) {
        return l < 0 || l >= s.loaves.size();
    }

    private boolean noPromise(int p) {
        return p < 0 || p >= s.promises.size();
    }

    public int person(int person, int what) {
        if (noPerson(person)) {
            return no(2);
        }
        Person p = s.people.get(person);
        int[] all = {p.purse, p.own, p.face};
        return what < 0 || what > 2 ? no(5) : yes(all[what]);
    }

    public int loaf(int loaf, int what) {
        if (noLoaf(loaf)) {
            return no(2);
        }
        Loaf l = s.loaves.get(loaf);
        int[] all = {l.baker, l.oven, l.day, l.slices, l.flour, l.came};
        if (what < 0 || what > 5) {
            return no(5);
        }
        return all[what] < 0 ? no(8) : yes(all[what]);
    }

    public int promise(int promise, int what) {
        if (noPromise(promise)) {
            return no(2);
        }
        Promise p = s.promises.get(promise);
        int[] all = {p.slices, p.loaf, p.from, p.to, p.price, p.gone ? 1 : 0};
        return what < 0 || what > 5 ? no(5) : yes(all[what]);
    }

    // ---- what is held

    private static int held(State t, int person, int loaf) {
        int all = t.loaves.get(loaf).baker == person ? t.loaves.get(loaf).slices : 0;
        for (Promise p : t.promises) {
            if (!p.gone && p.loaf == loaf) {
                all += p.to == person ? p.slices : 0;
                all -= p.from == person ? p.slices : 0;
            }
        }
        return all;
    }

    /** -1 for the BAKER, 99 for one who had no PROMISE. */
    private static int since(State t, int person, int loaf) {
        if (t.loaves.get(loaf).baker == person) {
            return -1;
        }
        for (int i = 0; i < t.promises.size(); i++) {
            Promise p = t.promises.get(i);
            if (!p.gone && p.loaf == loaf && p.to == person) {
                return i;
            }
        }
        return 99;
    }

    private static List<Integer> waiting(State t, int loaf) {
        List<Integer> all = new ArrayList<>();
        for (int p = 0; p < t.people.size(); p++) {
            if (held(t, p, loaf) > 0) {
                all.add(p);
            }
        }
        all.sort((a, b) -> since(t, a, loaf) - since(t, b, loaf));
        return all;
    }

    /** Whose each SLICE is, one by one. */
    private static List<Integer> dealt(State t, int loaf, boolean wet) {
        List<Integer> owners = new ArrayList<>();
        Loaf l = t.loaves.get(loaf);
        int there = l.oven < 0 ? 0 : wet ? l.slices / 2 : l.slices;
        for (int p : waiting(t, loaf)) {
            for (int i = 0; i < held(t, p, loaf) && owners.size() < there; i++) {
                owners.add(p);
            }
        }
        return owners;
    }

    private static int got(State t, int person, int loaf, boolean wet) {
        int all = 0;
        for (int p : dealt(t, loaf, wet)) {
            all += p == person ? 1 : 0;
        }
        return all;
    }

    private static int lost(State t, int person, int loaf, boolean wet) {
        int all = Math.max(0, -held(t, person, loaf));
        if (person == t.loaves.get(loaf).baker) {
            for (int p = 0; p < t.people.size(); p++) {
                if (p != person) {
                    all += Math.max(0, held(t, p, loaf)) - got(t, p, loaf, wet);
                }
            }
        }
        return all;
    }

    public int holds(int person, int loaf) {
        return noPerson(person) || noLoaf(loaf) ? no(2) : yes(held(s, person, loaf));
    }

    /** Rows walked back from a PROMISE to the BAKER. */
    private int rowTo(int promise, Map<Integer, Integer> known) {
        if (known.containsKey(promise)) {
            return known.get(promise);
        }
        Promise p = s.promises.get(promise);
        int best = 0;
        if (!p.gone) {
            if (p.from == s.loaves.get(p.loaf).baker) {
                best = 1;
            }
            for (int i = 0; i < promise; i++) {
                Promise q = s.promises.get(i);
                if (!q.gone && q.loaf == p.loaf && q.to == p.from && rowTo(i, known) > 0) {
                    best = Math.max(best, rowTo(i, known) + 1);
                }
            }
        }
        known.put(promise, best);
        return best;
    }

    public int deep(int loaf) {
        if (noLoaf(loaf)) {
            return no(2);
        }
        int best = 0;
        for (int i = 0; i < s.promises.size(); i++) {
            if (s.promises.get(i).loaf == loaf) {
                best = Math.max(best, rowTo(i, new HashMap<>()));
            }
        }
        return yes(best);
    }

    public int first(int a, int b, int loaf) {
        if (noPerson(a) || noPerson(b) || noLoaf(loaf)) {
            return no(2);
        }
        if (a == b) {
            return no(5);
        }
        int x = since(s, a, loaf);
        int y = since(s, b, loaf);
        return x == 99 && y == 99 ? no(8) : yes(x < y ? a : b);
    }

    public int line(int loaf, int k) {
        if (noLoaf(loaf)) {
            return no(2);
        }
        List<Integer> all = waiting(s, loaf);
        return k < 0 || k >= all.size() ? no(8) : yes(all.get(k));
    }

    private boolean settled(int loaf) {
        return s.loaves.get(loaf).oven < 0 || s.loaves.get(loaf).came >= 0;
    }

    public int whose(int loaf, int slice, boolean wet) {
        if (noLoaf(loaf)) {
            return no(2);
        }
        if (settled(loaf)) {
            return no(9);
        }
        List<Integer> owners = dealt(s, loaf, wet);
        return slice < 0 || slice >= owners.size() ? no(8) : yes(owners.get(slice));
    }

    public int depth(int promise) {
        return noPromise(promise) ? no(2) : yes(rowTo(promise, new HashMap<>()));
    }

    public int between(int a, int b) {
        if (noPerson(a) || noPerson(b)) {
            return no(2);
        }
        if (a == b) {
            return no(5);
        }
        int all = 0;
        for (Promise p : s.promises) {
            if (!p.gone) {
                all += p.from == a && p.to == b ? p.slices : 0;
                all -= p.from == b && p.to == a ? p.slices : 0;
            }
        }
        return yes(all);
    }

    public int gets(int person, int loaf, boolean wet) {
        if (noPerson(person) || noLoaf(loaf)) {
            return no(2);
        }
        return settled(loaf) ? no(9) : yes(got(s, person, loaf, wet));
    }

    public int shame(int loaf, boolean wet) {
        if (noLoaf(loaf)) {
            return no(2);
        }
        if (s.loaves.get(loaf).came >= 0) {
            return no(9);
        }
        int all = 0;
        for (int p = 0; p < s.people.size(); p++) {
            all += lost(s, p, loaf, wet);
        }
        return yes(all);
    }

    public boolean mean(int person, int loaf, int what) {
        if (noPerson(person) || noLoaf(loaf)) {
            return not(2);
        }
        if (what != 0 && what != 1) {
            return not(5);
        }
        if (settled(loaf)) {
            return not(9);
        }
        if (what == 1 && held(s, person, loaf) <= 0) {
            return not(8);
        }
        int sum = 0;
        for (int draw = 0; draw < 16; draw++) {
            sum += got(s, person, loaf, draw < s.ovens.get(s.loaves.get(loaf).oven).rain);
        }
        fraction(sum, what == 0 ? 16 : 16 * held(s, person, loaf));
        return yes();
    }

    private int netOf(int person) {
        int all = 0;
        for (int l = 0; l < s.loaves.size(); l++) {
            all += held(s, person, l);
            all -= s.loaves.get(l).baker == person ? s.loaves.get(l).slices : 0;
        }
        return all;
    }

    public int net(int person) {
        return noPerson(person) ? no(2) : yes(netOf(person));
    }

    /**
     * The first who is not at 0 settles with each of the others of the other sign, all it has:
     * of the fewest HAND-OVERS there is always a way that begins so.
     */
    private static int settle(int[] nets, int from) {
        int i = from;
        while (i < nets.length && nets[i] == 0) {
            i++;
        }
        if (i == nets.length) {
            return 0;
        }
        int best = 99;
        for (int j = i + 1; j < nets.length; j++) {
            if ((long) nets[i] * nets[j] < 0) {
                nets[j] += nets[i];
                best = Math.min(best, 1 + settle(nets, i + 1));
                nets[j] -= nets[i];
            }
        }
        return best;
    }

    public int handOvers() {
        int[] nets = new int[s.people.size()];
        for (int p = 0; p < nets.length; p++) {
            nets[p] = netOf(p);
        }
        return yes(settle(nets, 0));
    }

    private void rings(List<Integer> row, List<List<Integer>> all, int longest) {
        int start = s.promises.get(row.get(0)).from;
        int end = s.promises.get(row.get(row.size() - 1)).to;
        if (end == start) {
            all.add(new ArrayList<>(row));
            return;
        }
        if (row.size() >= longest) {
            return;
        }
        for (int i : row) {
            if (s.promises.get(i).from == end) {
                return;
            }
        }
        for (int i = 0; i < s.promises.size(); i++) {
            Promise p = s.promises.get(i);
            if (!p.gone && p.from == end) {
                row.add(i);
                rings(row, all, longest);
                row.remove(row.size() - 1);
            }
        }
    }

    public int ring() {
        for (int longest = 2; longest <= 8; longest++) {
            List<List<Integer>> all = new ArrayList<>();
            for (int i = 0; i < s.promises.size(); i++) {
                if (!s.promises.get(i).gone) {
                    rings(new ArrayList<>(List.of(i)), all, longest);
                }
            }
            all.removeIf(r -> r.get(0) > r.stream().mapToInt(v -> v).min().getAsInt());
            if (!all.isEmpty()) {
                ring = all.stream().min((a, b) -> Arrays.compare(
                        a.stream().mapToInt(v -> v).toArray(),
                        b.stream().mapToInt(v -> v).toArray())).get();
                return yes(ring.size());
            }
        }
        return no(8);
    }

    public int ringAt(int k) {
        return k < 0 || k >= ring.size() ? no(8) : yes(ring.get(k));
    }

    public int owing(int loaf) {
        if (noLoaf(loaf)) {
            return no(2);
        }
        int set = 0;
        for (int p = 0; p < s.people.size(); p++) {
            set += held(s, p, loaf) < 0 ? 1 << p : 0;
        }
        return yes(set);
    }

    // ---- flour, days

    public int saved(int person, int slices, int what) {
        if (noPerson(person)) {
            return no(2);
        }
        if (slices < 1 || slices > 999 || what < 0 || what > 1) {
            return no(5);
        }
        int best = -1;
        int least = Integer.MAX_VALUE;
        for (int set = 0; set < 1 << s.loaves.size(); set++) {
            int all = 0;
            int flour = 0;
            boolean may = true;
            for (int l = 0; l < s.loaves.size(); l++) {
                if ((set & 1 << l) != 0) {
                    may &= !settled(l);
                    all += got(s, person, l, false);
                    flour += s.loaves.get(l).flour;
                }
            }
            if (may && all >= slices && flour < least) {
                best = set;
                least = flour;
            }
        }
        return best < 0 ? no(9) : yes(what == 0 ? least : best);
    }

    private boolean othersHold(int loaf) {
        for (int p : waiting(s, loaf)) {
            if (p != s.loaves.get(loaf).baker) {
                return true;
            }
        }
        return false;
    }

    public int faces() {
        int flour = 0;
        for (int l = 0; l < s.loaves.size(); l++) {
            if (!settled(l) && othersHold(l)) {
                if (lost(s, s.loaves.get(l).baker, l, false) > 0) {
                    return no(9);
                }
                flour += s.loaves.get(l).flour;
            }
        }
        return yes(flour);
    }

    public int keeps(int person, int tray, int many) {
        if (tray < 0 || tray > 3) {
            return no(1);
        }
        if (noPerson(person)) {
            return no(2);
        }
        if (trays[tray] == null) {
            return no(3);
        }
        if (many > trays[tray].length) {
            return no(4);
        }
        if (many < 1) {
            return no(5);
        }
        for (int d = 0; d < many; d++) {
            if (trays[tray][d] < 0 || trays[tray][d] > 999) {
                return no(5);
            }
        }
        int given = 0;
        for (int d = 0; d < many; d++) {
            int had = 0;
            for (int l = 0; l < s.loaves.size(); l++) {
                if (s.loaves.get(l).day <= d) {
                    had += got(s, person, l, false);
                }
            }
            if (had - given < trays[tray][d]) {
                return yes(d);
            }
            given += (int) trays[tray][d];
        }
        return no(8);
    }

    public int burst() {
        for (int d = s.day; d <= 99; d++) {
            for (int l = 0; l < s.loaves.size(); l++) {
                if (s.loaves.get(l).oven < 0 && s.loaves.get(l).day == d && othersHold(l)) {
                    return yes(d);
                }
            }
        }
        return no(8);
    }

    // ---- the TRUE LOAF, crumbs

    /** The turn in which it is CUT from this one on. */
    private static int cutFrom(int turn, int n, int m, int t, int shame) {
        if (turn >= t || n - turn <= 0) {
            return -1;
        }
        int later = cutFrom(turn + 1, n, m, t, shame);
        int handing = later >= 0 && (later - turn) % m == 0 ? n - later - shame : 0;
        return n - turn - shame >= handing ? turn : later;
    }

    public int cuts(int n, int m, int t, int shame, int what) {
        if (n < 1 || n > 60 || m < 2 || m > 8 || t < 1 || t > 40 || shame < 0 || shame > 60
                || what < 0 || what > 1) {
            return no(5);
        }
        int turn = cutFrom(0, n, m, t, shame);
        return turn < 0 ? no(8) : yes(what == 0 ? turn % m : turn);
    }

    public int auction(int tray, int many, int what) {
        if (tray < 0 || tray > 3) {
            return no(1);
        }
        if (trays[tray] == null) {
            return no(3);
        }
        if (many > trays[tray].length) {
            return no(4);
        }
        if (many < 1 || many > 8 || what < 0 || what > 1) {
            return no(5);
        }
        List<Integer> order = new ArrayList<>();
        for (int i = 0; i < many; i++) {
            if (trays[tray][i] < 0 || trays[tray][i] > 9999) {
                return no(5);
            }
            order.add(i);
        }
        order.sort((a, b) -> Long.compare(trays[tray][b], trays[tray][a]));
        if (trays[tray][order.get(0)] == 0) {
            return no(8);
        }
        if (what == 0) {
            return yes(order.get(0));
        }
        return yes(many == 1 ? 0 : (int) trays[tray][order.get(1)]);
    }

    // ---- by hand

    public int make(int slices, int loaf, int from, int to, int price) {
        if (noLoaf(loaf) || noPerson(from) || noPerson(to)) {
            return no(2);
        }
        if (slices < 1 || slices > 99 || price < 0 || price > 999 || from == to) {
            return no(5);
        }
        if (s.promises.size() >= 40) {
            return no(7);
        }
        if (s.loaves.get(loaf).came >= 0) {
            return no(9);
        }
        hand(s, new int[] {slices, loaf, from, to, price});
        return yes(s.promises.size() - 1);
    }

    private static boolean drop(State t, int promise) {
        if (promise >= t.promises.size()) {
            return false;
        }
        Promise p = t.promises.get(promise);
        if (p.gone || t.loaves.get(p.loaf).came >= 0) {
            return false;
        }
        p.gone = true;
        t.people.get(p.from).purse -= p.price;
        t.people.get(p.to).purse += p.price;
        return true;
    }

    public boolean letGo(int promise) {
        if (noPromise(promise)) {
            return not(2);
        }
        return drop(s, promise) ? yes() : not(9);
    }

    private static int out(State t, int loaf) {
        Loaf l = t.loaves.get(loaf);
        if (l.oven < 0 || l.came >= 0 || l.day != t.day) {
            return -1;
        }
        boolean wet = t.ovens.get(l.oven).wet;
        for (int p = 0; p < t.people.size(); p++) {
            t.people.get(p).own += got(t, p, loaf, wet);
            t.people.get(p).face += lost(t, p, loaf, wet);
        }
        l.came = wet ? l.slices / 2 : l.slices;
        return l.came;
    }

    public int bake(int loaf) {
        if (noLoaf(loaf)) {
            return no(2);
        }
        int came = out(s, loaf);
        return came < 0 ? no(9) : yes(came);
    }

    public int pass(int days) {
        if (days < 1 || days > 9) {
            return no(5);
        }
        if (s.day + days > 99) {
            return no(7);
        }
        s.day += days;
        for (Oven o : s.ovens) {
            o.wet = false;
        }
        return yes(s.day);
    }

    private static int meal(State t, int person, int slices) {
        Person p = t.people.get(person);
        int eaten = 0;
        while (eaten < slices && p.own > 0) {
            p.own--;
            eaten++;
        }
        return eaten;
    }

    public int eat(int person, int slices) {
        if (noPerson(person)) {
            return no(2);
        }
        return slices < 1 || slices > 99 ? no(5) : yes(meal(s, person, slices));
    }

    private static boolean money(State t, int from, int to, int much) {
        if (from == to || t.people.get(from).purse < much) {
            return false;
        }
        t.people.get(from).purse -= much;
        t.people.get(to).purse += much;
        return true;
    }

    public boolean pay(int from, int to, int much) {
        if (noPerson(from) || noPerson(to)) {
            return not(2);
        }
        if (much < 1 || much > 999 || from == to) {
            return not(5);
        }
        return money(s, from, to, much) ? yes() : not(9);
    }

    // ---- DAYS

    /** Ends a run of DAYS: by a stop, or ahead of a 301st STEP. */
    private static final class Over extends RuntimeException {
        private static final long serialVersionUID = 1L;
    }

    private void run(State t, int withSeed) {
        seed = withSeed;
        done = 0;
        tally = new int[5];
        try {
            runAll(t, t.days);
        } catch (Over over) {
            return;
        }
    }

    private void runAll(State t, List<Step> steps) {
        for (Step st : steps) {
            if (done == 300) {
                tally[4] = 1;
                throw new Over();
            }
            done++;
            switch (st.word) {
                case "stop" -> throw new Over();
                case "when" -> {
                    if (passes(t, st)) {
                        runAll(t, st.body);
                    }
                }
                case "loop" -> {
                    for (int i = 0; i < st.n[0]; i++) {
                        runAll(t, st.body);
                    }
                }
                default -> tally[0] += act(t, st) ? 0 : 1;
            }
        }
    }

    private static boolean passes(State t, Step st) {
        if (st.test.equals("baked")) {
            return t.loaves.get(st.n[0]).came >= 0;
        }
        if (st.test.equals("wet")) {
            return t.ovens.get(st.n[0]).wet;
        }
        int v = st.test.equals("day") ? t.day : t.people.get(st.n[0]).own;
        return Integer.signum(v - st.n[1]) == st.sign - '=';
    }

    private boolean act(State t, Step st) {
        int[] n = st.n;
        switch (st.word) {
            case "promise":
                if (t.promises.size() >= 40 || t.loaves.get(n[1]).came >= 0) {
                    return false;
                }
                hand(t, n);
                return true;
            case "break":
                return drop(t, n[0]);
            case "bake":
                int came = out(t, n[0]);
                if (came < 0) {
                    return false;
                }
                tally[1] += came;
                tally[3] += t.ovens.get(t.loaves.get(n[0]).oven).wet ? 1 : 0;
                return true;
            case "wait":
                return sleep(t, n[0]);
            case "eat":
                int eaten = meal(t, n[0], n[1]);
                tally[2] += eaten;
                return eaten > 0;
            default:
                return money(t, n[0], n[1], n[2]);
        }
    }

    private boolean sleep(State t, int nights) {
        int last = Math.min(99, t.day + nights);
        boolean any = last > t.day;
        while (t.day < last) {
            t.day++;
            for (Oven o : t.ovens) {
                seed = (int) ((seed * 2803L + 10607L) % 65536L);
                o.wet = Math.floorDiv(seed, 8) % 16 < o.rain;
            }
        }
        return any;
    }

    public int live(int withSeed) {
        if (withSeed < 0 || withSeed > 9999) {
            return no(5);
        }
        if (s.days == null) {
            return no(8);
        }
        run(s, withSeed);
        lived = tally;
        return yes(done);
    }

    public int lived(int what) {
        if (what < 0 || what > 4) {
            return no(5);
        }
        return lived == null ? no(8) : yes(lived[what]);
    }

    public boolean odds(int person, int slices, int withSeed, int many) {
        if (noPerson(person)) {
            return not(2);
        }
        if (slices < 1 || slices > 999 || withSeed < 0 || many < 1 || many > 20
                || (long) withSeed + many - 1 > 9999) {
            return not(5);
        }
        if (s.days == null) {
            return not(8);
        }
        int enough = 0;
        for (int i = 0; i < many; i++) {
            State t = s.copy();
            run(t, withSeed + i);
            enough += t.people.get(person).own >= slices ? 1 : 0;
        }
        fraction(enough, many);
        return yes();
    }

    // ---- MARKS

    public int mark() {
        if (marks.size() == 3) {
            return no(7);
        }
        marks.add(s.copy());
        return yes(marks.size());
    }

    public int back() {
        if (marks.isEmpty()) {
            return no(8);
        }
        s = marks.remove(marks.size() - 1);
        return yes(marks.size());
    }
}
