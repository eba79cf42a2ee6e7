import java.util.Arrays;

/**
 * A famine town in which slices of loaves are dealt that are not baked yet.
 *
 * <p>Every row is made by the constructor and used again, so that no later call makes an object.
 */
public final class PaperBread {
    public static final int NONE = -1;

    private static final int FINE = 0;
    private static final int NO_TRAY = 1;
    private static final int NO_SUCH = 2;
    private static final int MISSING = 3;
    private static final int NO_PLACE = 4;
    private static final int BAD_NUMBER = 5;
    private static final int BELOW_ZERO = 6;
    private static final int TOO_MANY = 7;
    private static final int IS_NONE = 8;
    private static final int CANNOT_BE = 9;
    private static final int FAULTY = 10;
    private static final int UNLIKE_SORTS = 11;

    private static final int PEOPLE = 8;
    private static final int OVENS = 4;
    private static final int LOAVES = 8;
    private static final int TOWN_PROMISES = 16;
    private static final int PROMISES = 40;
    private static final int MARKS = 3;
    private static final int TAPE_BYTES = 900;
    private static final int DAYS_BYTES = 300;
    private static final int LAST_DAY = 99;
    private static final int LONGEST_WAIT = 9;
    private static final int MOST_SLICES = 99;
    private static final int MOST_MONEY = 999;
    private static final int LAST_SEED = 9999;
    private static final int SIXTEENTHS = 16;

    private final Trays trays = new Trays();
    private final Texts texts = new Texts();
    private final Town town = new Town();
    private final Town draft = new Town();
    private final Town[] marks = new Town[MARKS];
    private final Share share = new Share();
    private final Netting netting = new Netting();
    private final Living living = new Living();
    private final Living trial = new Living();
    private int marked;
    private int status;
    private long top;
    private long bottom = 1;
    private int faultKind = NONE;
    private int faultPlace = NONE;
    private boolean hasLived;

    public PaperBread() {
        for (int i = 0; i < marks.length; i++) {
            marks[i] = new Town();
        }
    }

    public int status() {
        return status;
    }

    public long top() {
        return top;
    }

    public long bottom() {
        return bottom;
    }

    // ---- TRAYS

    public boolean tray(int tray, int sort, int many) {
        if (!trays.exists(tray) || !trays.isSort(sort)) {
            return deny(NO_TRAY);
        }
        if (many > Trays.LONGEST) {
            return deny(BAD_NUMBER);
        }
        if (many < 0) {
            return deny(BELOW_ZERO);
        }
        trays.lay(tray, sort, many);
        return grant();
    }

    public boolean write(int tray, int place, long v) {
        int why = trays.whyNot(tray, place);
        if (why != FINE) {
            return deny(why);
        }
        trays.put(tray, place, v);
        return grant();
    }

    public long read(int tray, int place) {
        int why = trays.whyNot(tray, place);
        if (why != FINE) {
            return refuse(why);
        }
        status = FINE;
        return trays.at(tray, place);
    }

    public boolean pour(int tray, int i, int to, int j, int many) {
        if (!trays.exists(tray) || !trays.exists(to)) {
            return deny(NO_TRAY);
        }
        if (trays.isMissing(tray) || trays.isMissing(to)) {
            return deny(MISSING);
        }
        if (!trays.alike(tray, to)) {
            return deny(UNLIKE_SORTS);
        }
        if (many < 0) {
            return deny(BELOW_ZERO);
        }
        if (!trays.hasRow(tray, i, many) || !trays.hasRow(to, j, many)) {
            return deny(NO_PLACE);
        }
        trays.move(tray, i, to, j, many);
        return grant();
    }

    // ---- texts

    public int feed(int a, int b, int c, int d, int e) {
        Tokens tape = texts.tokens;
        if (!tape.hasRoomFor(20)) {
            return NONE;
        }
        tape.append(a);
        tape.append(b);
        tape.append(c);
        tape.append(d);
        tape.append(e);
        return tape.fed;
    }

    public int town(int n) {
        if (n < 0 || n > texts.tokens.fed) {
            return refuse(BAD_NUMBER);
        }
        boolean taken = texts.readTown(draft, n);
        keepFault();
        if (!taken) {
            return refuse(FAULTY);
        }
        carry(draft, town);
        return answer(town.loaves);
    }

    public int days(int n) {
        if (n < 0 || n > texts.tokens.fed || n > DAYS_BYTES) {
            return refuse(BAD_NUMBER);
        }
        boolean taken = texts.readDays(town.names, draft.days, n);
        keepFault();
        if (!taken) {
            return refuse(FAULTY);
        }
        town.days.copyOf(draft.days);
        return answer(town.days.steps);
    }

    public int fault(int what) {
        if (what == 0) {
            return faultKind;
        }
        return what == 1 ? faultPlace : NONE;
    }

    public int many(int what) {
        switch (what) {
            case 0:
                return answer(town.people);
            case 1:
                return answer(town.ovens);
            case 2:
                return answer(town.loaves);
            case 3:
                return answer(town.promises.count);
            case 4:
                return answer(town.day);
            case 5:
                return answer(town.baked);
            case 6:
                return answer(town.wet);
            default:
                return refuse(BAD_NUMBER);
        }
    }

    public int person(int person, int what) {
        if (!town.hasPerson(person)) {
            return refuse(NO_SUCH);
        }
        switch (what) {
            case 0:
                return answer(town.purse[person]);
            case 1:
                return answer(town.own[person]);
            case 2:
                return answer(town.lostFace[person]);
            default:
                return refuse(BAD_NUMBER);
        }
    }

    public int loaf(int loaf, int what) {
        if (!town.hasLoaf(loaf)) {
            return refuse(NO_SUCH);
        }
        switch (what) {
            case 0:
                return answer(town.baker[loaf]);
            case 1:
                return town.isPaper(loaf) ? refuse(IS_NONE) : answer(town.oven[loaf]);
            case 2:
                return answer(town.bakingDay[loaf]);
            case 3:
                return answer(town.slices[loaf]);
            case 4:
                return answer(town.flour[loaf]);
            case 5:
                return town.isBaked(loaf) ? answer(town.came[loaf]) : refuse(IS_NONE);
            default:
                return refuse(BAD_NUMBER);
        }
    }

    public int promise(int promise, int what) {
        Promises all = town.promises;
        if (!all.has(promise)) {
            return refuse(NO_SUCH);
        }
        switch (what) {
            case 0:
                return answer(all.slices[promise]);
            case 1:
                return answer(all.loaf[promise]);
            case 2:
                return answer(all.giver[promise]);
            case 3:
                return answer(all.taker[promise]);
            case 4:
                return answer(all.price[promise]);
            case 5:
                return answer(all.gone[promise] ? 1 : 0);
            default:
                return refuse(BAD_NUMBER);
        }
    }

    // ---- what is held

    public int holds(int person, int loaf) {
        if (!town.hasPerson(person) || !town.hasLoaf(loaf)) {
            return refuse(NO_SUCH);
        }
        share.weigh(town, loaf);
        return answer(share.held[person]);
    }

    public int deep(int loaf) {
        if (!town.hasLoaf(loaf)) {
            return refuse(NO_SUCH);
        }
        return answer(town.promises.deepest(loaf, town.baker[loaf]));
    }

    public int first(int a, int b, int loaf) {
        if (!town.hasPerson(a) || !town.hasPerson(b) || !town.hasLoaf(loaf)) {
            return refuse(NO_SUCH);
        }
        if (a == b) {
            return refuse(BAD_NUMBER);
        }
        share.weigh(town, loaf);
        if (share.since[a] == Share.NEVER && share.since[b] == Share.NEVER) {
            return refuse(IS_NONE);
        }
        return answer(share.since[a] < share.since[b] ? a : b);
    }

    public int line(int loaf, int k) {
        if (!town.hasLoaf(loaf)) {
            return refuse(NO_SUCH);
        }
        share.weigh(town, loaf);
        if (k < 0 || k >= share.waiting) {
            return refuse(IS_NONE);
        }
        return answer(share.queue[k]);
    }

    public int whose(int loaf, int slice, boolean wet) {
        if (!town.hasLoaf(loaf)) {
            return refuse(NO_SUCH);
        }
        if (town.isPaper(loaf) || town.isBaked(loaf)) {
            return refuse(CANNOT_BE);
        }
        share.weigh(town, loaf);
        share.deal(town.comesOf(loaf, wet));
        int owner = share.ownerOf(slice);
        return owner == NONE ? refuse(IS_NONE) : answer(owner);
    }

    public int depth(int promise) {
        Promises all = town.promises;
        if (!all.has(promise)) {
            return refuse(NO_SUCH);
        }
        int loaf = all.loaf[promise];
        all.deepest(loaf, town.bakerOf(loaf));
        return answer(all.gone[promise] ? 0 : all.ownDepth[promise]);
    }

    public int between(int a, int b) {
        if (!town.hasPerson(a) || !town.hasPerson(b)) {
            return refuse(NO_SUCH);
        }
        if (a == b) {
            return refuse(BAD_NUMBER);
        }
        return answer(town.promises.handed(a, b) - town.promises.handed(b, a));
    }

    public int gets(int person, int loaf, boolean wet) {
        if (!town.hasPerson(person) || !town.hasLoaf(loaf)) {
            return refuse(NO_SUCH);
        }
        if (town.isPaper(loaf) || town.isBaked(loaf)) {
            return refuse(CANNOT_BE);
        }
        return answer(wouldGet(person, loaf, wet));
    }

    public int shame(int loaf, boolean wet) {
        if (!town.hasLoaf(loaf)) {
            return refuse(NO_SUCH);
        }
        if (town.isBaked(loaf)) {
            return refuse(CANNOT_BE);
        }
        share.settle(town, loaf, wet);
        int all = 0;
        for (int p = 0; p < PEOPLE; p++) {
            all += share.disgrace[p];
        }
        return answer(all);
    }

    public boolean mean(int person, int loaf, int what) {
        if (!town.hasPerson(person) || !town.hasLoaf(loaf)) {
            return deny(NO_SUCH);
        }
        if (what < 0 || what > 1) {
            return deny(BAD_NUMBER);
        }
        if (town.isPaper(loaf) || town.isBaked(loaf)) {
            return deny(CANNOT_BE);
        }
        int rain = town.rainOn(loaf);
        int sum = rain * wouldGet(person, loaf, true)
                + (SIXTEENTHS - rain) * wouldGet(person, loaf, false);
        int held = share.held[person];
        if (what == 1 && held <= 0) {
            return deny(IS_NONE);
        }
        tell(sum, what == 1 ? SIXTEENTHS * held : SIXTEENTHS);
        return grant();
    }

    public int net(int person) {
        if (!town.hasPerson(person)) {
            return refuse(NO_SUCH);
        }
        return answer(town.promises.surplus(person));
    }

    public int handOvers() {
        return answer(netting.fewestHandOvers(town));
    }

    public int ring() {
        int length = netting.findRing(town.promises);
        return length == NONE ? refuse(IS_NONE) : answer(length);
    }

    public int ringAt(int k) {
        if (k < 0 || k >= netting.ringLength) {
            return refuse(IS_NONE);
        }
        return answer(netting.found[k]);
    }

    public int owing(int loaf) {
        if (!town.hasLoaf(loaf)) {
            return refuse(NO_SUCH);
        }
        share.weigh(town, loaf);
        int set = 0;
        for (int p = 0; p < PEOPLE; p++) {
            if (share.held[p] < 0) {
                set |= 1 << p;
            }
        }
        return answer(set);
    }

    // ---- flour, days

    public int saved(int person, int slices, int what) {
        if (!town.hasPerson(person)) {
            return refuse(NO_SUCH);
        }
        if (slices < 1 || slices > 999 || what < 0 || what > 1) {
            return refuse(BAD_NUMBER);
        }
        share.gather(town, person);
        int set = share.cheapestSet(town, slices);
        if (set == NONE) {
            return refuse(CANNOT_BE);
        }
        return answer(what == 1 ? set : town.flourOf(set));
    }

    public int faces() {
        int flour = 0;
        for (int loaf = 0; loaf < town.loaves; loaf++) {
            if (town.isPaper(loaf) || town.isBaked(loaf)) {
                continue;
            }
            share.settle(town, loaf, false);
            int baker = town.baker[loaf];
            if (!share.othersHold(baker)) {
                continue;
            }
            if (share.disgrace[baker] > 0) {
                return refuse(CANNOT_BE);
            }
            flour += town.flour[loaf];
        }
        return answer(flour);
    }

    public int keeps(int person, int tray, int many) {
        if (!trays.exists(tray)) {
            return refuse(NO_TRAY);
        }
        if (!town.hasPerson(person)) {
            return refuse(NO_SUCH);
        }
        if (trays.isMissing(tray)) {
            return refuse(MISSING);
        }
        if (many > trays.lengthOf(tray)) {
            return refuse(NO_PLACE);
        }
        if (many < 1 || !trays.allWithin(tray, many, 999)) {
            return refuse(BAD_NUMBER);
        }
        int day = firstBrokenDay(person, tray, many);
        return day == NONE ? refuse(IS_NONE) : answer(day);
    }

    public int burst() {
        int soonest = NONE;
        for (int loaf = 0; loaf < town.loaves; loaf++) {
            int on = town.bakingDay[loaf];
            if (!town.isPaper(loaf) || on < town.day || soonest != NONE && on >= soonest) {
                continue;
            }
            share.weigh(town, loaf);
            if (share.othersHold(town.baker[loaf])) {
                soonest = on;
            }
        }
        return soonest == NONE ? refuse(IS_NONE) : answer(soonest);
    }

    // ---- the TRUE LOAF, crumbs

    public int cuts(int n, int m, int t, int s, int what) {
        if (n < 1 || n > 60 || m < 2 || m > 8 || t < 1 || t > 40) {
            return refuse(BAD_NUMBER);
        }
        if (s < 0 || s > 60 || what < 0 || what > 1) {
            return refuse(BAD_NUMBER);
        }
        int turn = cuttingTurn(n, m, t, s);
        if (turn == NONE) {
            return refuse(IS_NONE);
        }
        return answer(what == 1 ? turn : turn % m);
    }

    public int auction(int tray, int many, int what) {
        if (!trays.exists(tray)) {
            return refuse(NO_TRAY);
        }
        if (trays.isMissing(tray)) {
            return refuse(MISSING);
        }
        if (many > trays.lengthOf(tray)) {
            return refuse(NO_PLACE);
        }
        if (many < 1 || many > 8 || what < 0 || what > 1) {
            return refuse(BAD_NUMBER);
        }
        if (!trays.allWithin(tray, many, 9999)) {
            return refuse(BAD_NUMBER);
        }
        int winner = trays.placeOfMost(tray, many, NONE);
        if (trays.at(tray, winner) == 0) {
            return refuse(IS_NONE);
        }
        if (what == 0) {
            return answer(winner);
        }
        int next = trays.placeOfMost(tray, many, winner);
        return answer(next == NONE ? 0 : (int) trays.at(tray, next));
    }

    // ---- by hand

    public int make(int slices, int loaf, int from, int to, int price) {
        if (!town.hasLoaf(loaf) || !town.hasPerson(from) || !town.hasPerson(to)) {
            return refuse(NO_SUCH);
        }
        if (slices < 1 || slices > MOST_SLICES || price < 0 || price > MOST_MONEY || from == to) {
            return refuse(BAD_NUMBER);
        }
        if (!town.promises.hasRoom()) {
            return refuse(TOO_MANY);
        }
        if (town.isBaked(loaf)) {
            return refuse(CANNOT_BE);
        }
        return answer(town.handOn(slices, loaf, from, to, price));
    }

    public boolean letGo(int promise) {
        if (!town.promises.has(promise)) {
            return deny(NO_SUCH);
        }
        return town.release(promise) ? grant() : deny(CANNOT_BE);
    }

    public int bake(int loaf) {
        if (!town.hasLoaf(loaf)) {
            return refuse(NO_SUCH);
        }
        if (!town.canBake(loaf)) {
            return refuse(CANNOT_BE);
        }
        share.settle(town, loaf, town.rainsOn(loaf));
        return answer(town.bringOut(loaf, share));
    }

    public int pass(int days) {
        if (days < 1 || days > LONGEST_WAIT) {
            return refuse(BAD_NUMBER);
        }
        if (town.day + days > LAST_DAY) {
            return refuse(TOO_MANY);
        }
        town.day += days;
        town.wet = 0;
        return answer(town.day);
    }

    public int eat(int person, int slices) {
        if (!town.hasPerson(person)) {
            return refuse(NO_SUCH);
        }
        if (slices < 1 || slices > MOST_SLICES) {
            return refuse(BAD_NUMBER);
        }
        return answer(town.feast(person, slices));
    }

    public boolean pay(int from, int to, int much) {
        if (!town.hasPerson(from) || !town.hasPerson(to)) {
            return deny(NO_SUCH);
        }
        if (much < 1 || much > MOST_MONEY || from == to) {
            return deny(BAD_NUMBER);
        }
        return town.handMoney(from, to, much) ? grant() : deny(CANNOT_BE);
    }

    // ---- DAYS

    public int live(int seed) {
        if (seed < 0 || seed > LAST_SEED) {
            return refuse(BAD_NUMBER);
        }
        if (!town.days.written) {
            return refuse(IS_NONE);
        }
        living.run(town, seed);
        hasLived = true;
        return answer(living.steps);
    }

    public int lived(int what) {
        if (what < 0 || what > 4) {
            return refuse(BAD_NUMBER);
        }
        if (!hasLived) {
            return refuse(IS_NONE);
        }
        switch (what) {
            case 0:
                return answer(living.missed);
            case 1:
                return answer(living.slicesBaked);
            case 2:
                return answer(living.eaten);
            case 3:
                return answer(living.wetLoaves);
            default:
                return answer(living.cutShort ? 1 : 0);
        }
    }

    public boolean odds(int person, int slices, int seed, int many) {
        if (!town.hasPerson(person)) {
            return deny(NO_SUCH);
        }
        if (slices < 1 || slices > 999 || seed < 0 || many < 1 || many > 20) {
            return deny(BAD_NUMBER);
        }
        if (seed > LAST_SEED - many + 1) {
            return deny(BAD_NUMBER);
        }
        if (!town.days.written) {
            return deny(IS_NONE);
        }
        int enough = 0;
        for (int i = 0; i < many; i++) {
            carry(town, draft);
            trial.run(draft, seed + i);
            if (draft.own[person] >= slices) {
                enough++;
            }
        }
        tell(enough, many);
        return grant();
    }

    // ---- MARKS

    public int mark() {
        if (marked < 0 || marked >= marks.length) {
            return refuse(TOO_MANY);
        }
        carry(town, marks[marked]);
        marked++;
        return answer(marked);
    }

    public int back() {
        if (marked < 1 || marked > marks.length) {
            return refuse(IS_NONE);
        }
        marked--;
        carry(marks[marked], town);
        return answer(marked);
    }

    // ---- what the calls share

    private int answer(int value) {
        status = FINE;
        return value;
    }

    private int refuse(int why) {
        status = why;
        return NONE;
    }

    private boolean grant() {
        status = FINE;
        return true;
    }

    private boolean deny(int why) {
        status = why;
        return false;
    }

    private void keepFault() {
        faultKind = texts.tokens.wrong;
        faultPlace = texts.tokens.wrongPlace;
    }

    /** The bottom given is above 0, the top is not below 0. */
    private void tell(long newTop, long newBottom) {
        long a = newTop;
        long b = newBottom;
        // Euclid's steps on numbers below 100,000 are far fewer than this.
        for (int i = 0; i < 100 && b != 0; i++) {
            long rest = a % b;
            a = b;
            b = rest;
        }
        if (a <= 0) {
            return;
        }
        top = newTop / a;
        bottom = newBottom / a;
    }

    private int wouldGet(int person, int loaf, boolean wet) {
        share.weigh(town, loaf);
        share.deal(town.comesOf(loaf, wet));
        return share.got[person];
    }

    private int firstBrokenDay(int person, int tray, int many) {
        share.gather(town, person);
        long stock = 0;
        for (int day = 0; day < many; day++) {
            for (int loaf = 0; loaf < town.loaves; loaf++) {
                if (town.bakingDay[loaf] == day) {
                    stock += share.fromLoaf[loaf];
                }
            }
            stock -= trays.at(tray, day);
            if (stock < 0) {
                return day;
            }
        }
        return NONE;
    }

    /** Thought from the last turn back: what handing on brings is known by the turns behind. */
    private static int cuttingTurn(int n, int m, int t, int s) {
        if (m < 1) {
            return NONE;
        }
        int cut = NONE;
        for (int turn = Math.min(n, t) - 1; turn >= 0; turn--) {
            boolean comesBack = cut != NONE && cut % m == turn % m;
            int handingOn = comesBack ? n - cut - s : 0;
            if (n - turn - s >= handingOn) {
                cut = turn;
            }
        }
        return cut;
    }

    private static void carry(Town from, Town to) {
        if (from != null && to != null) {
            to.copyOf(from);
        }
    }

    /** Rows of numbers, all in one long row, each with room for the longest. */
    private static final class Trays {
        static final int COUNT = 4;
        static final int LONGEST = 60;
        static final int SORTS = 4;
        final long[] cells = new long[COUNT * LONGEST];
        final int[] sorts = new int[COUNT];
        final int[] lengths = new int[COUNT];

        Trays() {
            Arrays.fill(lengths, NONE);
        }

        boolean exists(int tray) {
            return tray >= 0 && tray < COUNT;
        }

        boolean isSort(int sort) {
            return sort >= 0 && sort < SORTS;
        }

        boolean isMissing(int tray) {
            return !exists(tray) || lengths[tray] < 0;
        }

        int lengthOf(int tray) {
            return isMissing(tray) ? 0 : lengths[tray];
        }

        boolean alike(int tray, int other) {
            return exists(tray) && exists(other) && sorts[tray] == sorts[other];
        }

        boolean hasRow(int tray, int from, int many) {
            return from >= 0 && many >= 0 && from <= lengthOf(tray) - many;
        }

        int whyNot(int tray, int place) {
            if (!exists(tray)) {
                return NO_TRAY;
            }
            if (isMissing(tray)) {
                return MISSING;
            }
            return hasRow(tray, place, 1) ? FINE : NO_PLACE;
        }

        void lay(int tray, int sort, int length) {
            if (!exists(tray) || length < 0 || length > LONGEST) {
                return;
            }
            sorts[tray] = sort;
            lengths[tray] = length;
            for (int place = 0; place < length; place++) {
                cells[tray * LONGEST + place] = 0;
            }
        }

        void put(int tray, int place, long v) {
            if (hasRow(tray, place, 1)) {
                cells[tray * LONGEST + place] = cutTo(sorts[tray], v);
            }
        }

        long at(int tray, int place) {
            return hasRow(tray, place, 1) ? cells[tray * LONGEST + place] : 0;
        }

        void move(int tray, int i, int to, int j, int many) {
            if (hasRow(tray, i, many) && hasRow(to, j, many)) {
                System.arraycopy(cells, tray * LONGEST + i, cells, to * LONGEST + j, many);
            }
        }

        boolean allWithin(int tray, int many, long most) {
            for (int i = 0; i < many && i < LONGEST; i++) {
                if (at(tray, i) < 0 || at(tray, i) > most) {
                    return false;
                }
            }
            return true;
        }

        /** The first place of the greatest number but for one place; NONE if there is no other. */
        int placeOfMost(int tray, int many, int except) {
            int best = NONE;
            for (int i = 0; i < many && i < LONGEST; i++) {
                if (i != except && (best == NONE || at(tray, i) > at(tray, best))) {
                    best = i;
                }
            }
            return best;
        }

        private static long cutTo(int sort, long v) {
            switch (sort) {
                case 0:
                    return (byte) v;
                case 1:
                    return (short) v;
                case 2:
                    return (int) v;
                default:
                    return v;
            }
        }
    }

    /** The NAMES of a TOWN's things; a NAME is its letters, 5 bits each, and 0 is none. */
    private static final class Names {
        static final int PERSON = 0;
        static final int OVEN = 1;
        static final int LOAF = 2;
        /** Where the NAMES of each kind of thing begin, and the end of the last. */
        static final int[] STARTS = {0, PEOPLE, PEOPLE + OVENS, PEOPLE + OVENS + LOAVES};
        final long[] known = new long[PEOPLE + OVENS + LOAVES];

        void clear() {
            Arrays.fill(known, 0L);
        }

        void copyOf(Names other) {
            System.arraycopy(other.known, 0, known, 0, known.length);
        }

        void give(int kind, int number, long name) {
            if (kind < PERSON || kind > LOAF || number < 0) {
                return;
            }
            int place = STARTS[kind] + number;
            if (place < STARTS[kind + 1]) {
                known[place] = name;
            }
        }

        int numberOf(int kind, long name) {
            if (kind < PERSON || kind > LOAF) {
                return NONE;
            }
            for (int place = STARTS[kind]; place < STARTS[kind + 1]; place++) {
                if (known[place] == name) {
                    return place - STARTS[kind];
                }
            }
            return NONE;
        }

        boolean isTaken(long name) {
            for (int place = 0; place < known.length; place++) {
                if (known[place] == name) {
                    return true;
                }
            }
            return false;
        }
    }

    /** PROMISES as they were made; those let go keep their numbers. */
    private static final class Promises {
        final int[] slices = new int[PROMISES];
        final int[] loaf = new int[PROMISES];
        final int[] giver = new int[PROMISES];
        final int[] taker = new int[PROMISES];
        final int[] price = new int[PROMISES];
        final boolean[] gone = new boolean[PROMISES];
        final int[] ownDepth = new int[PROMISES];
        final int[] reached = new int[PEOPLE];
        int count;

        void copyOf(Promises other) {
            count = other.count;
            System.arraycopy(other.slices, 0, slices, 0, PROMISES);
            System.arraycopy(other.loaf, 0, loaf, 0, PROMISES);
            System.arraycopy(other.giver, 0, giver, 0, PROMISES);
            System.arraycopy(other.taker, 0, taker, 0, PROMISES);
            System.arraycopy(other.price, 0, price, 0, PROMISES);
            System.arraycopy(other.gone, 0, gone, 0, PROMISES);
        }

        boolean has(int promise) {
            return promise >= 0 && promise < count && promise < PROMISES;
        }

        boolean hasRoom() {
            return count >= 0 && count < PROMISES;
        }

        boolean stands(int promise) {
            return has(promise) && !gone[promise];
        }

        /** The longest row; on the way each PROMISE's own, by how deep its giver was reached. */
        int deepest(int ofLoaf, int baker) {
            Arrays.fill(reached, 0);
            int most = 0;
            for (int i = 0; i < count; i++) {
                if (gone[i] || loaf[i] != ofLoaf) {
                    continue;
                }
                int ahead = reached[giver[i]];
                int own = ahead > 0 || giver[i] == baker ? ahead + 1 : 0;
                ownDepth[i] = own;
                reached[taker[i]] = Math.max(reached[taker[i]], own);
                most = Math.max(most, own);
            }
            return most;
        }

        int handed(int from, int to) {
            int all = 0;
            for (int i = 0; i < count; i++) {
                if (stands(i) && giver[i] == from && taker[i] == to) {
                    all += slices[i];
                }
            }
            return all;
        }

        int surplus(int person) {
            int all = 0;
            for (int i = 0; i < count; i++) {
                if (stands(i) && taker[i] == person) {
                    all += slices[i];
                }
                if (stands(i) && giver[i] == person) {
                    all -= slices[i];
                }
            }
            return all;
        }
    }

    /** A TOWN with all that became of it, and its DAYS. */
    private static final class Town {
        final Names names = new Names();
        final Promises promises = new Promises();
        final Days days = new Days();
        final int[] purse = new int[PEOPLE];
        final int[] own = new int[PEOPLE];
        final int[] lostFace = new int[PEOPLE];
        final int[] rain = new int[OVENS];
        final int[] baker = new int[LOAVES];
        final int[] oven = new int[LOAVES];
        final int[] bakingDay = new int[LOAVES];
        final int[] slices = new int[LOAVES];
        final int[] flour = new int[LOAVES];
        final int[] came = new int[LOAVES];
        int people;
        int ovens;
        int loaves;
        int day;
        int baked;
        int wet;

        void clear() {
            names.clear();
            promises.count = 0;
            days.clear();
            people = 0;
            ovens = 0;
            loaves = 0;
            day = 0;
            baked = 0;
            wet = 0;
        }

        void copyOf(Town other) {
            names.copyOf(other.names);
            promises.copyOf(other.promises);
            days.copyOf(other.days);
            System.arraycopy(other.purse, 0, purse, 0, PEOPLE);
            System.arraycopy(other.own, 0, own, 0, PEOPLE);
            System.arraycopy(other.lostFace, 0, lostFace, 0, PEOPLE);
            System.arraycopy(other.rain, 0, rain, 0, OVENS);
            System.arraycopy(other.baker, 0, baker, 0, LOAVES);
            System.arraycopy(other.oven, 0, oven, 0, LOAVES);
            System.arraycopy(other.bakingDay, 0, bakingDay, 0, LOAVES);
            System.arraycopy(other.slices, 0, slices, 0, LOAVES);
            System.arraycopy(other.flour, 0, flour, 0, LOAVES);
            System.arraycopy(other.came, 0, came, 0, LOAVES);
            people = other.people;
            ovens = other.ovens;
            loaves = other.loaves;
            day = other.day;
            baked = other.baked;
            wet = other.wet;
        }

        void addPerson(long name, int money) {
            if (people < 0 || people >= PEOPLE) {
                return;
            }
            names.give(Names.PERSON, people, name);
            purse[people] = money;
            own[people] = 0;
            lostFace[people] = 0;
            people++;
        }

        void addOven(long name, int sixteenths) {
            if (ovens < 0 || ovens >= OVENS) {
                return;
            }
            names.give(Names.OVEN, ovens, name);
            rain[ovens] = sixteenths;
            ovens++;
        }

        void addLoaf(long name, int by, int in, int on, int size, int needs) {
            if (loaves < 0 || loaves >= LOAVES || !hasPerson(by)) {
                return;
            }
            names.give(Names.LOAF, loaves, name);
            baker[loaves] = by;
            oven[loaves] = in;
            bakingDay[loaves] = on;
            slices[loaves] = size;
            flour[loaves] = needs;
            came[loaves] = 0;
            loaves++;
        }

        boolean hasPerson(int person) {
            return person >= 0 && person < people && person < PEOPLE;
        }

        boolean hasLoaf(int loaf) {
            return loaf >= 0 && loaf < loaves && loaf < LOAVES;
        }

        boolean isPaper(int loaf) {
            return !hasLoaf(loaf) || oven[loaf] < 0;
        }

        boolean isBaked(int loaf) {
            return hasLoaf(loaf) && (baked >> loaf & 1) == 1;
        }

        boolean isWet(int number) {
            return number >= 0 && number < OVENS && (wet >> number & 1) == 1;
        }

        int bakerOf(int loaf) {
            return hasLoaf(loaf) ? baker[loaf] : NONE;
        }

        int rainOn(int loaf) {
            int number = hasLoaf(loaf) ? oven[loaf] : NONE;
            return number >= 0 && number < OVENS ? rain[number] : 0;
        }

        int comesOf(int loaf, boolean inRain) {
            if (!hasLoaf(loaf) || oven[loaf] < 0) {
                return 0;
            }
            return inRain ? slices[loaf] / 2 : slices[loaf];
        }

        int flourOf(int set) {
            int all = 0;
            for (int loaf = 0; loaf < loaves; loaf++) {
                if ((set >> loaf & 1) == 1) {
                    all += flour[loaf];
                }
            }
            return all;
        }

        int handOn(int size, int loaf, int from, int to, int price) {
            int number = promises.count;
            if (!promises.hasRoom() || !hasPerson(from) || !hasPerson(to)) {
                return NONE;
            }
            promises.slices[number] = size;
            promises.loaf[number] = loaf;
            promises.giver[number] = from;
            promises.taker[number] = to;
            promises.price[number] = price;
            promises.gone[number] = false;
            promises.count++;
            purse[from] += price;
            purse[to] -= price;
            return number;
        }

        /** False where it can't be: it is not there, was let go, or its LOAF is BAKED. */
        boolean release(int promise) {
            if (!promises.stands(promise) || isBaked(promises.loaf[promise])) {
                return false;
            }
            promises.gone[promise] = true;
            purse[promises.giver[promise]] -= promises.price[promise];
            purse[promises.taker[promise]] += promises.price[promise];
            return true;
        }

        boolean canBake(int loaf) {
            return hasLoaf(loaf) && !isPaper(loaf) && !isBaked(loaf) && bakingDay[loaf] == day;
        }

        boolean rainsOn(int loaf) {
            return hasLoaf(loaf) && isWet(oven[loaf]);
        }

        /** Of a LOAF that can be BAKED, for which the share was settled as it comes today. */
        int bringOut(int loaf, Share share) {
            if (!hasLoaf(loaf)) {
                return NONE;
            }
            for (int p = 0; p < people; p++) {
                own[p] += share.got[p];
                lostFace[p] += share.disgrace[p];
            }
            came[loaf] = comesOf(loaf, rainsOn(loaf));
            baked |= 1 << loaf;
            return came[loaf];
        }

        int feast(int person, int most) {
            if (!hasPerson(person)) {
                return 0;
            }
            int eaten = Math.min(most, own[person]);
            own[person] -= eaten;
            return eaten;
        }

        boolean handMoney(int from, int to, int much) {
            if (!hasPerson(from) || !hasPerson(to) || from == to || purse[from] < much) {
                return false;
            }
            purse[from] -= much;
            purse[to] += much;
            return true;
        }
    }

    /** What each HOLDS of one LOAF, since which PROMISE, and what each GETS of it. */
    private static final class Share {
        static final int NEVER = PROMISES;
        static final int BAKER = -1;
        final int[] held = new int[PEOPLE];
        final int[] since = new int[PEOPLE];
        final int[] queue = new int[PEOPLE];
        final int[] got = new int[PEOPLE];
        final int[] disgrace = new int[PEOPLE];
        final int[] fromLoaf = new int[LOAVES];
        int waiting;

        void weigh(Town town, int loaf) {
            Arrays.fill(held, 0);
            Arrays.fill(since, NEVER);
            waiting = 0;
            if (!town.hasLoaf(loaf)) {
                return;
            }
            held[town.baker[loaf]] = town.slices[loaf];
            since[town.baker[loaf]] = BAKER;
            Promises all = town.promises;
            for (int i = 0; i < all.count; i++) {
                if (!all.gone[i] && all.loaf[i] == loaf) {
                    held[all.giver[i]] -= all.slices[i];
                    held[all.taker[i]] += all.slices[i];
                    since[all.taker[i]] = Math.min(since[all.taker[i]], i);
                }
            }
            lineUp();
        }

        private void lineUp() {
            for (int p = 0; p < PEOPLE; p++) {
                if (held[p] <= 0) {
                    continue;
                }
                int k = waiting;
                while (k > 0 && since[queue[k - 1]] > since[p]) {
                    queue[k] = queue[k - 1];
                    k--;
                }
                queue[k] = p;
                waiting++;
            }
        }

        /** To those who were weighed. */
        void deal(int there) {
            Arrays.fill(got, 0);
            int left = there;
            for (int k = 0; k < waiting; k++) {
                int p = queue[k];
                got[p] = Math.min(held[p], left);
                left -= got[p];
            }
        }

        int ownerOf(int slice) {
            int end = 0;
            for (int k = 0; k < waiting; k++) {
                end += got[queue[k]];
                if (slice >= 0 && slice < end) {
                    return queue[k];
                }
            }
            return NONE;
        }

        void settle(Town town, int loaf, boolean wet) {
            weigh(town, loaf);
            deal(town.comesOf(loaf, wet));
            int baker = town.bakerOf(loaf);
            int denied = 0;
            for (int p = 0; p < PEOPLE; p++) {
                disgrace[p] = Math.max(0, -held[p]);
                if (p != baker && held[p] > 0) {
                    denied += held[p] - got[p];
                }
            }
            if (town.hasPerson(baker)) {
                disgrace[baker] += denied;
            }
        }

        boolean othersHold(int baker) {
            for (int k = 0; k < waiting; k++) {
                if (queue[k] != baker) {
                    return true;
                }
            }
            return false;
        }

        /** What a person GETS of every LOAF, BAKED or not, without RAIN. */
        void gather(Town town, int person) {
            Arrays.fill(fromLoaf, 0);
            if (!town.hasPerson(person)) {
                return;
            }
            for (int loaf = 0; loaf < town.loaves; loaf++) {
                weigh(town, loaf);
                deal(town.comesOf(loaf, false));
                fromLoaf[loaf] = got[person];
            }
        }

        /** By what was gathered; sets are tried from the least on, so the first of several stays. */
        int cheapestSet(Town town, int wanted) {
            int open = 0;
            for (int loaf = 0; loaf < town.loaves; loaf++) {
                if (!town.isPaper(loaf) && !town.isBaked(loaf)) {
                    open |= 1 << loaf;
                }
            }
            int best = NONE;
            int least = 0;
            for (int set = 1; set < 1 << LOAVES; set++) {
                if ((set & ~open) != 0 || gathered(set) < wanted) {
                    continue;
                }
                int flour = town.flourOf(set);
                if (best == NONE || flour < least) {
                    best = set;
                    least = flour;
                }
            }
            return best;
        }

        private int gathered(int set) {
            int all = 0;
            for (int loaf = 0; loaf < LOAVES; loaf++) {
                if ((set >> loaf & 1) == 1) {
                    all += fromLoaf[loaf];
                }
            }
            return all;
        }
    }

    /** HAND-OVERS and RINGS, which look at the PROMISES of all LOAVES together. */
    private static final class Netting {
        static final int SETS = 1 << PEOPLE;
        static final int FAR = 1000;
        final int[] sums = new int[SETS];
        final int[] groups = new int[SETS];
        final int[] steps = new int[PEOPLE * PEOPLE];
        final int[] found = new int[PEOPLE];
        int ringLength;

        /**
         * A group of k persons whose NETS are 0 together needs k - 1 HAND-OVERS, so the fewest
         * come of the most groups. A person whose NET is 0 is a group alone.
         */
        int fewestHandOvers(Town town) {
            if (town.people < 0 || town.people > PEOPLE) {
                return 0;
            }
            sums[0] = 0;
            groups[0] = 0;
            int end = 1 << town.people;
            for (int p = 0; p < town.people; p++) {
                int surplus = town.promises.surplus(p);
                for (int set = 0; set < 1 << p; set++) {
                    sums[set | 1 << p] = sums[set] + surplus;
                }
            }
            for (int set = 1; set < end; set++) {
                int most = 0;
                for (int p = 0; p < town.people; p++) {
                    if ((set >> p & 1) == 1) {
                        most = Math.max(most, groups[set & ~(1 << p)]);
                    }
                }
                groups[set] = sums[set] == 0 ? most + 1 : most;
            }
            return town.people - groups[end - 1];
        }

        /**
         * NONE if there is none: then what was found ahead stays. The least PROMISE on any
         * shortest RING begins it; behind it the least that still comes home in time.
         */
        int findRing(Promises all) {
            measure(all);
            int start = NONE;
            int length = FAR;
            for (int i = 0; i < all.count; i++) {
                if (all.stands(i) && 1 + way(all.taker[i], all.giver[i]) < length) {
                    start = i;
                    length = 1 + way(all.taker[i], all.giver[i]);
                }
            }
            if (start == NONE || length > PEOPLE) {
                return NONE;
            }
            int home = all.giver[start];
            int next = start;
            for (int k = 0; k < length && next != NONE; k++) {
                found[k] = next;
                next = nextOnWay(all, all.taker[next], home, length - k - 2);
            }
            ringLength = length;
            return length;
        }

        private int nextOnWay(Promises all, int at, int home, int leftBehind) {
            for (int i = 0; i < all.count; i++) {
                if (all.stands(i) && all.giver[i] == at && way(all.taker[i], home) == leftBehind) {
                    return i;
                }
            }
            return NONE;
        }

        private int way(int from, int to) {
            int place = from * PEOPLE + to;
            return place >= 0 && place < steps.length ? steps[place] : FAR;
        }

        /** The fewest PROMISES from each person to each, ways through more persons by and by. */
        private void measure(Promises all) {
            Arrays.fill(steps, FAR);
            for (int p = 0; p < PEOPLE; p++) {
                steps[p * PEOPLE + p] = 0;
            }
            for (int i = 0; i < all.count; i++) {
                if (all.stands(i)) {
                    steps[all.giver[i] * PEOPLE + all.taker[i]] = 1;
                }
            }
            for (int by = 0; by < PEOPLE; by++) {
                for (int from = 0; from < PEOPLE; from++) {
                    for (int to = 0; to < PEOPLE; to++) {
                        int through = steps[from * PEOPLE + by] + steps[by * PEOPLE + to];
                        if (through < steps[from * PEOPLE + to]) {
                            steps[from * PEOPLE + to] = through;
                        }
                    }
                }
            }
        }
    }

    /** The tape, and a text on it TOKEN by TOKEN; behind its first FAULT nothing is taken. */
    private static final class Tokens {
        static final String KEYWORDS = "person purse oven rain loaf by in on slices flour promise of from to for bake wait eat pay break when day has baked wet loop end stop";
        static final int PERSON = 0;
        static final int PURSE = 1;
        static final int OVEN = 2;
        static final int RAIN = 3;
        static final int LOAF = 4;
        static final int BY = 5;
        static final int IN = 6;
        static final int ON = 7;
        static final int SLICES = 8;
        static final int FLOUR = 9;
        static final int PROMISE = 10;
        static final int OF = 11;
        static final int FROM = 12;
        static final int TO = 13;
        static final int FOR = 14;
        static final int BAKE = 15;
        static final int WAIT = 16;
        static final int EAT = 17;
        static final int PAY = 18;
        static final int BREAK = 19;
        static final int WHEN = 20;
        static final int DAY = 21;
        static final int HAS = 22;
        static final int BAKED = 23;
        static final int WET = 24;
        static final int LOOP = 25;
        static final int END = 26;
        static final int STOP = 27;

        static final int IS_END = 0;
        static final int IS_WORD = 1;
        static final int IS_NUMBER = 2;
        static final int IS_SIGN = 3;
        static final int IS_BROKEN = 4;

        static final int NO_TOKEN = 1;
        static final int OUT_OF_PLACE = 2;
        static final int WRONG_NAME = 3;
        static final int WRONG_NUMBER = 4;
        static final int TO_ITSELF = 5;
        static final int ONE_TOO_MANY = 6;
        static final int TOO_FAR_WITHIN = 7;

        static final int LONGEST_NAME = 8;
        static final int LONGEST_NUMBER = 4;

        final byte[] tape = new byte[TAPE_BYTES];
        final long[] keywords = new long[STOP + 1];
        int fed;
        int length;
        int kind;
        int place;
        int behind;
        int number;
        long name;
        int wrong;
        int wrongPlace;

        Tokens() {
            int word = 0;
            for (int i = 0; i < KEYWORDS.length() && word < keywords.length; i++) {
                char c = KEYWORDS.charAt(i);
                if (c == ' ') {
                    word++;
                } else {
                    keywords[word] = keywords[word] * 32 + (c - 'a' + 1);
                }
            }
        }

        boolean hasRoomFor(int bytes) {
            return bytes >= 0 && fed <= TAPE_BYTES - bytes;
        }

        void append(int four) {
            if (!hasRoomFor(4) || fed < 0) {
                return;
            }
            for (int shift = 24; shift >= 0; shift -= 8) {
                tape[fed] = (byte) (four >> shift);
                fed++;
            }
        }

        /** The tape is empty from here on, but the text that was on it is still to be taken. */
        void open(int n) {
            length = Math.max(0, Math.min(n, fed));
            fed = 0;
            behind = 0;
            wrong = 0;
            wrongPlace = NONE;
            advance();
        }

        void advance() {
            int at = behind;
            while (at < length && (tape[at] == ' ' || tape[at] == '\n')) {
                at++;
            }
            place = at;
            behind = at;
            name = 0;
            if (at >= length) {
                kind = IS_END;
                return;
            }
            int c = tape[at];
            if (c >= 'a' && c <= 'z') {
                cutWord();
            } else if (c >= '0' && c <= '9') {
                cutNumber();
            } else {
                kind = c == ';' || c == '<' || c == '>' || c == '=' ? IS_SIGN : IS_BROKEN;
                number = c;
                behind = at + 1;
            }
        }

        /** A WORD that is too long for a NAME is no keyword either: it has no letters here. */
        private void cutWord() {
            long packed = 0;
            int at = place;
            while (at < length && tape[at] >= 'a' && tape[at] <= 'z') {
                packed = packed * 32 + (tape[at] - 'a' + 1);
                at++;
            }
            kind = IS_WORD;
            name = at - place <= LONGEST_NAME ? packed : 0;
            behind = at;
        }

        private void cutNumber() {
            int value = 0;
            int at = place;
            while (at < length && tape[at] >= '0' && tape[at] <= '9') {
                value = at - place < LONGEST_NUMBER ? value * 10 + (tape[at] - '0') : value;
                at++;
            }
            kind = at - place <= LONGEST_NUMBER ? IS_NUMBER : IS_BROKEN;
            number = value;
            behind = at;
        }

        boolean goesOn() {
            return wrong == 0 && kind != IS_END;
        }

        void blame(int what) {
            if (wrong == 0) {
                wrong = what;
                wrongPlace = place;
            }
        }

        void misplaced() {
            blame(kind == IS_BROKEN ? NO_TOKEN : OUT_OF_PLACE);
        }

        boolean isWord(int word) {
            return wrong == 0 && kind == IS_WORD
                    && word >= 0 && word < keywords.length && keywords[word] == name;
        }

        /** The number of the keyword that stands here; NONE for all else. */
        int wordHere() {
            if (wrong != 0 || kind != IS_WORD) {
                return NONE;
            }
            for (int word = 0; word < keywords.length; word++) {
                if (keywords[word] == name) {
                    return word;
                }
            }
            return NONE;
        }

        boolean skips(int word) {
            boolean here = isWord(word);
            if (here) {
                advance();
            }
            return here;
        }

        void takeWord(int word) {
            if (isWord(word)) {
                advance();
            } else {
                misplaced();
            }
        }

        void takeSign(int sign) {
            if (wrong == 0 && kind == IS_SIGN && number == sign) {
                advance();
            } else {
                misplaced();
            }
        }

        int takeCompares() {
            if (wrong != 0 || kind != IS_SIGN || number == ';') {
                misplaced();
                return NONE;
            }
            int sign = number;
            advance();
            return sign;
        }

        int takeNumber(int least, int most) {
            if (wrong != 0 || kind != IS_NUMBER) {
                misplaced();
                return NONE;
            }
            if (number < least || number > most) {
                blame(WRONG_NUMBER);
                return NONE;
            }
            int value = number;
            advance();
            return value;
        }

        private boolean seesName() {
            if (wrong != 0 || kind != IS_WORD || name == 0 || wordHere() != NONE) {
                misplaced();
                return false;
            }
            return true;
        }

        long takeNewName(Names names) {
            if (!seesName()) {
                return 0;
            }
            if (names.isTaken(name)) {
                blame(WRONG_NAME);
                return 0;
            }
            long taken = name;
            advance();
            return taken;
        }

        /** Of a person, oven or loaf told ahead, but for the giver (NONE: there is no giver). */
        int takeName(Names names, int thing, int giver) {
            if (!seesName()) {
                return NONE;
            }
            int known = names.numberOf(thing, name);
            if (known == NONE) {
                blame(WRONG_NAME);
            } else if (known == giver) {
                blame(TO_ITSELF);
            } else {
                advance();
            }
            return known;
        }
    }

    /** A DAYS' TEXT as rows: what to do, up to five numbers with it, and the row it belongs to. */
    private static final class Days {
        static final int MOST_STEPS = 30;
        static final int MOST_WITHIN = 3;
        static final int ROWS = 2 * MOST_STEPS;
        static final int FACTS = 5;
        static final int PARTNER = FACTS + 1;
        static final int WIDTH = FACTS + 2;
        final int[] cells = new int[ROWS * WIDTH];
        final int[] begun = new int[MOST_WITHIN];
        int within;
        int rows;
        int steps;
        boolean written;

        void clear() {
            within = 0;
            rows = 0;
            steps = 0;
            written = false;
        }

        void copyOf(Days other) {
            System.arraycopy(other.cells, 0, cells, 0, cells.length);
            within = other.within;
            rows = other.rows;
            steps = other.steps;
            written = other.written;
        }

        /** What is done in a row (column 0), its facts (1 to 5), its partner (6). */
        int cell(int row, int column) {
            if (row < 0 || row >= ROWS || column < 0 || column >= WIDTH) {
                return NONE;
            }
            return cells[row * WIDTH + column];
        }

        void add(int word, int[] facts) {
            if (rows < 0 || rows >= ROWS) {
                return;
            }
            int place = rows * WIDTH;
            cells[place] = word;
            for (int i = 0; i < FACTS && i < facts.length; i++) {
                cells[place + 1 + i] = facts[i];
            }
            cells[place + PARTNER] = NONE;
            rows++;
            if (word != Tokens.END) {
                steps++;
            }
        }

        /** The row added latest begins what an end closes. */
        void begin() {
            if (within >= 0 && within < MOST_WITHIN) {
                begun[within] = rows - 1;
                within++;
            }
        }

        void close(int[] facts) {
            if (within < 1 || within > MOST_WITHIN || rows >= ROWS) {
                return;
            }
            within--;
            int from = begun[within];
            if (from < 0 || from >= rows) {
                return;
            }
            add(Tokens.END, facts);
            cells[(rows - 1) * WIDTH + PARTNER] = from;
            cells[from * WIDTH + PARTNER] = rows - 1;
        }
    }

    /** Reads the texts on the tape; a text with a FAULT leaves a draft that nobody uses. */
    private static final class Texts {
        final Tokens tokens = new Tokens();
        final int[] facts = new int[Days.FACTS];

        boolean readTown(Town draft, int n) {
            draft.clear();
            tokens.open(n);
            for (int part = 0; part < TAPE_BYTES && tokens.goesOn(); part++) {
                switch (tokens.wordHere()) {
                    case Tokens.PERSON:
                        readPerson(draft);
                        break;
                    case Tokens.OVEN:
                        readOven(draft);
                        break;
                    case Tokens.LOAF:
                        readLoaf(draft);
                        break;
                    case Tokens.PROMISE:
                        readTownPromise(draft);
                        break;
                    default:
                        tokens.misplaced();
                        break;
                }
            }
            return tokens.wrong == 0;
        }

        private void beginPart(int word, boolean hasRoom) {
            if (!hasRoom) {
                tokens.blame(Tokens.ONE_TOO_MANY);
            }
            tokens.takeWord(word);
        }

        private boolean endsPart() {
            tokens.takeSign(';');
            return tokens.wrong == 0;
        }

        private void readPerson(Town draft) {
            beginPart(Tokens.PERSON, draft.people < PEOPLE);
            long name = tokens.takeNewName(draft.names);
            int purse = tokens.skips(Tokens.PURSE) ? tokens.takeNumber(0, MOST_MONEY) : 0;
            if (endsPart()) {
                draft.addPerson(name, purse);
            }
        }

        private void readOven(Town draft) {
            beginPart(Tokens.OVEN, draft.ovens < OVENS);
            long name = tokens.takeNewName(draft.names);
            int rain = tokens.skips(Tokens.RAIN) ? tokens.takeNumber(0, SIXTEENTHS) : 0;
            if (endsPart()) {
                draft.addOven(name, rain);
            }
        }

        private void readLoaf(Town draft) {
            Names names = draft.names;
            beginPart(Tokens.LOAF, draft.loaves < LOAVES);
            long name = tokens.takeNewName(names);
            tokens.takeWord(Tokens.BY);
            int baker = tokens.takeName(names, Names.PERSON, NONE);
            int oven = tokens.skips(Tokens.IN) ? tokens.takeName(names, Names.OVEN, NONE) : NONE;
            tokens.takeWord(Tokens.ON);
            int day = tokens.takeNumber(0, LAST_DAY);
            tokens.takeWord(Tokens.SLICES);
            int slices = tokens.takeNumber(1, MOST_SLICES);
            tokens.takeWord(Tokens.FLOUR);
            int flour = tokens.takeNumber(0, 999);
            if (endsPart()) {
                draft.addLoaf(name, baker, oven, day, slices, flour);
            }
        }

        private void readTownPromise(Town draft) {
            if (draft.promises.count >= TOWN_PROMISES) {
                tokens.blame(Tokens.ONE_TOO_MANY);
            }
            readPromise(draft.names);
            if (endsPart()) {
                draft.handOn(facts[0], facts[1], facts[2], facts[3], facts[4]);
            }
        }

        private void readPromise(Names names) {
            tokens.takeWord(Tokens.PROMISE);
            facts[0] = tokens.takeNumber(1, MOST_SLICES);
            tokens.takeWord(Tokens.OF);
            facts[1] = tokens.takeName(names, Names.LOAF, NONE);
            tokens.takeWord(Tokens.FROM);
            facts[2] = tokens.takeName(names, Names.PERSON, NONE);
            tokens.takeWord(Tokens.TO);
            facts[3] = tokens.takeName(names, Names.PERSON, facts[2]);
            facts[4] = tokens.skips(Tokens.FOR) ? tokens.takeNumber(0, MOST_MONEY) : 0;
        }

        boolean readDays(Names names, Days draft, int n) {
            draft.clear();
            tokens.open(n);
            for (int row = 0; row < DAYS_BYTES && tokens.goesOn(); row++) {
                int word = tokens.wordHere();
                Arrays.fill(facts, 0);
                if (word == Tokens.END) {
                    readEnd(draft);
                } else if (mayStepHere(word, draft)) {
                    readStep(word, names);
                    if (endsPart()) {
                        addStep(word, draft);
                    }
                }
            }
            if (draft.within > 0) {
                tokens.misplaced();
            }
            draft.written = true;
            return tokens.wrong == 0;
        }

        private void readEnd(Days draft) {
            if (draft.within == 0) {
                tokens.misplaced();
            }
            tokens.takeWord(Tokens.END);
            if (endsPart()) {
                draft.close(facts);
            }
        }

        private static boolean isStep(int word) {
            return word == Tokens.PROMISE || word == Tokens.STOP || word == Tokens.LOOP
                    || word >= Tokens.BAKE && word <= Tokens.WHEN;
        }

        private static boolean begins(int word) {
            return word == Tokens.WHEN || word == Tokens.LOOP;
        }

        private boolean mayStepHere(int word, Days draft) {
            if (!isStep(word)) {
                tokens.misplaced();
            } else if (draft.steps >= Days.MOST_STEPS) {
                tokens.blame(Tokens.ONE_TOO_MANY);
            } else if (begins(word) && draft.within >= Days.MOST_WITHIN) {
                tokens.blame(Tokens.TOO_FAR_WITHIN);
            }
            return tokens.wrong == 0;
        }

        private void addStep(int word, Days draft) {
            draft.add(word, facts);
            if (begins(word)) {
                draft.begin();
            }
        }

        private void readStep(int word, Names names) {
            if (word == Tokens.PROMISE) {
                readPromise(names);
                return;
            }
            tokens.takeWord(word);
            switch (word) {
                case Tokens.BREAK:
                    facts[0] = tokens.takeNumber(0, PROMISES - 1);
                    break;
                case Tokens.BAKE:
                    facts[0] = tokens.takeName(names, Names.LOAF, NONE);
                    break;
                case Tokens.WAIT:
                    facts[0] = tokens.takeNumber(1, LONGEST_WAIT);
                    break;
                case Tokens.EAT:
                    facts[0] = tokens.takeName(names, Names.PERSON, NONE);
                    facts[1] = tokens.takeNumber(1, MOST_SLICES);
                    break;
                case Tokens.PAY:
                    facts[0] = tokens.takeName(names, Names.PERSON, NONE);
                    facts[1] = tokens.takeName(names, Names.PERSON, NONE);
                    facts[2] = tokens.takeNumber(1, MOST_MONEY);
                    break;
                case Tokens.LOOP:
                    facts[0] = tokens.takeNumber(1, 99);
                    break;
                case Tokens.WHEN:
                    readTest(names);
                    break;
                default:
                    break;
            }
        }

        /** Which TEST (fact 0), of what (1), by which sign (2), with which NUMBER (3). */
        private void readTest(Names names) {
            facts[0] = tokens.wordHere();
            if (tokens.skips(Tokens.DAY)) {
                facts[2] = tokens.takeCompares();
                facts[3] = tokens.takeNumber(0, LAST_DAY);
            } else if (tokens.skips(Tokens.HAS)) {
                facts[1] = tokens.takeName(names, Names.PERSON, NONE);
                facts[2] = tokens.takeCompares();
                facts[3] = tokens.takeNumber(0, 999);
            } else if (tokens.skips(Tokens.BAKED)) {
                facts[1] = tokens.takeName(names, Names.LOAF, NONE);
            } else if (tokens.skips(Tokens.WET)) {
                facts[1] = tokens.takeName(names, Names.OVEN, NONE);
            } else {
                tokens.misplaced();
            }
        }
    }

    /** Goes through a TOWN's DAYS by the draws of a seed, and counts what came of it. */
    private static final class Living {
        static final int MOST_STEPS = 300;
        /** Ends are no STEPS: 300 loops of 99 rounds have fewer of them than this. */
        static final int MOST_TURNS = 1000000;
        final Share share = new Share();
        final int[] rounds = new int[Days.ROWS];
        int drawn;
        int steps;
        int missed;
        int slicesBaked;
        int eaten;
        int wetLoaves;
        boolean cutShort;

        void run(Town town, int seed) {
            drawn = seed;
            steps = 0;
            missed = 0;
            slicesBaked = 0;
            eaten = 0;
            wetLoaves = 0;
            cutShort = false;
            int at = 0;
            for (int turn = 0; turn < MOST_TURNS && at >= 0 && at < town.days.rows; turn++) {
                at = goOn(town, at);
            }
        }

        /** Does a row; the row that comes next. */
        private int goOn(Town town, int at) {
            Days days = town.days;
            int word = days.cell(at, 0);
            if (word == Tokens.END) {
                return behindEnd(days, at);
            }
            if (steps >= MOST_STEPS) {
                cutShort = true;
                return days.rows;
            }
            steps++;
            switch (word) {
                case Tokens.STOP:
                    return days.rows;
                case Tokens.WHEN:
                    return isTrue(town, at) ? at + 1 : days.cell(at, Days.PARTNER) + 1;
                case Tokens.LOOP:
                    if (at >= 0 && at < rounds.length) {
                        rounds[at] = days.cell(at, 1);
                    }
                    return at + 1;
                default:
                    if (!isDone(town, word, at)) {
                        missed++;
                    }
                    return at + 1;
            }
        }

        private int behindEnd(Days days, int at) {
            int from = days.cell(at, Days.PARTNER);
            if (days.cell(from, 0) != Tokens.LOOP || from < 0 || from >= rounds.length) {
                return at + 1;
            }
            rounds[from]--;
            return rounds[from] > 0 ? from + 1 : at + 1;
        }

        private static boolean isTrue(Town town, int at) {
            Days days = town.days;
            int thing = days.cell(at, 2);
            int sign = days.cell(at, 3);
            int number = days.cell(at, 4);
            switch (days.cell(at, 1)) {
                case Tokens.DAY:
                    return compares(town.day, sign, number);
                case Tokens.HAS:
                    return town.hasPerson(thing) && compares(town.own[thing], sign, number);
                case Tokens.BAKED:
                    return town.isBaked(thing);
                default:
                    return town.isWet(thing);
            }
        }

        private static boolean compares(int value, int sign, int number) {
            if (sign == '<') {
                return value < number;
            }
            return sign == '>' ? value > number : value == number;
        }

        /** False where it is MISSED. */
        private boolean isDone(Town town, int word, int at) {
            Days days = town.days;
            int a = days.cell(at, 1);
            int b = days.cell(at, 2);
            int c = days.cell(at, 3);
            switch (word) {
                case Tokens.PROMISE:
                    return !town.isBaked(b)
                            && town.handOn(a, b, c, days.cell(at, 4), days.cell(at, 5)) != NONE;
                case Tokens.BREAK:
                    return town.release(a);
                case Tokens.BAKE:
                    return hasBaked(town, a);
                case Tokens.WAIT:
                    return hasWaited(town, a);
                case Tokens.EAT:
                    int much = town.feast(a, b);
                    eaten += much;
                    return much > 0;
                case Tokens.PAY:
                    return town.handMoney(a, b, c);
                default:
                    return false;
            }
        }

        private boolean hasBaked(Town town, int loaf) {
            if (!town.canBake(loaf)) {
                return false;
            }
            boolean wet = town.rainsOn(loaf);
            if (wet) {
                wetLoaves++;
            }
            share.settle(town, loaf, wet);
            slicesBaked += town.bringOut(loaf, share);
            return true;
        }

        private boolean hasWaited(Town town, int days) {
            if (town.day >= LAST_DAY) {
                return false;
            }
            for (int i = 0; i < days && town.day < LAST_DAY; i++) {
                town.day++;
                town.wet = 0;
                for (int oven = 0; oven < town.ovens; oven++) {
                    if (nextDraw() < town.rain[oven]) {
                        town.wet |= 1 << oven;
                    }
                }
            }
            return true;
        }

        private int nextDraw() {
            drawn = (drawn * 2803 + 10607) % 65536;
            return drawn / 8 % SIXTEENTHS;
        }
    }
}
