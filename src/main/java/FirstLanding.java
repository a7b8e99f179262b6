import java.util.Arrays;

/** The landing of an embassy on which everybody is only what one seemed when first seen. */
public final class FirstLanding {
    public static final int BAD = -1, FULL = -2, FINDING = -3, STATE = -4, SPENT = -6, NONE = -9;

    private static final int NOTHING = 1, BEYOND = 2, UNLIKE = 3, NOUGHT = 4, SIZE = 5;
    private static final int ENVOY = 1, SPY = 2, VALET = 3, CHIEF = 4, CHILD = 5, KIND_COUNT = 6;
    private static final int ROW_COUNT = 6, MOST_PLACES = 40, TEXT_COUNT = 4, MOST_SIGNS = 60;
    private static final int KEEP_COUNT = 3, MISSING = -1;
    private static final int MOST_PEOPLE = 6, ALL_SETS = 64, MOST_DEEDS = 40, MOST_LOOKS = 9;
    private static final int MOST_PAIRS = 4, MOST_NOTES = 6, MOST_TURNS = 2, MOST_LOTS = 20;
    private static final int MOST_KNOWING = 9, TWELVE = 12;
    private static final int DEED_STEP = 0, DEED_MEETING = 1, DEED_TREATY = 2;
    private static final long LOT_FACTOR = 48271L, LOT_MODULUS = 2147483647L;

    private final Row[] rows = new Row[ROW_COUNT];
    private final Text[] texts = new Text[TEXT_COUNT];
    private final Embassy now = new Embassy();
    private final Embassy[] kept = new Embassy[KEEP_COUNT];
    private final Reader reader = new Reader();
    private final Walk walk = new Walk();
    private final Meetings planned = new Meetings();
    private final int[] timesFound = new int[SIZE + 1];
    private int lastFinding = 0;
    private int lastAsked = 0;
    private long toldUpper = 0L;
    private long toldLower = 1L;

    public FirstLanding() {
        for (int r = 0; r < ROW_COUNT; r++) {
            rows[r] = new Row();
        }
        for (int t = 0; t < TEXT_COUNT; t++) {
            texts[t] = new Text();
        }
        for (int k = 0; k < KEEP_COUNT; k++) {
            kept[k] = new Embassy();
        }
    }

    // ---- 1 rows, texts, embassies

    public int row(int r, int n) {
        Row row = rowAt(r);
        if (row == null || n > MOST_PLACES) {
            return BAD;
        }
        if (n < 0) {
            return found(SIZE);
        }
        row.begin(n);
        return n;
    }

    public int lay(int r, int i, int v) {
        Row row = rowAt(r);
        if (row == null) {
            return BAD;
        }
        int why = whyNoPlace(row.size, i);
        if (why != 0) {
            return found(why);
        }
        lastAsked = row.places[i];
        row.places[i] = v;
        return 1;
    }

    public int at(int r, int i) {
        Row row = rowAt(r);
        if (row == null) {
            return BAD;
        }
        int why = whyNoPlace(row.size, i);
        if (why != 0) {
            return found(why);
        }
        lastAsked = row.places[i];
        return 1;
    }

    public int tear(int r) {
        Row row = rowAt(r);
        if (row == null) {
            return BAD;
        }
        if (row.size == MISSING) {
            return found(NOTHING);
        }
        row.size = MISSING;
        return 1;
    }

    public int copy(int r, int i, int to, int j, int n) {
        Row from = rowAt(r);
        Row into = rowAt(to);
        if (from == null || into == null) {
            return BAD;
        }
        if (n < 0) {
            return found(SIZE);
        }
        if (from.size == MISSING || into.size == MISSING) {
            return found(NOTHING);
        }
        if (!from.holds(i, n) || !into.holds(j, n)) {
            return found(BEYOND);
        }
        System.arraycopy(from.places, i, into.places, j, n);
        return 1;
    }

    public int mean(int r) {
        Row row = rowAt(r);
        if (row == null) {
            return BAD;
        }
        if (row.size == MISSING) {
            return found(NOTHING);
        }
        if (row.size <= 0) {
            return found(NOUGHT);
        }
        lastAsked = (int) (row.total() / row.size);
        return 1;
    }

    public int text(int t, int n) {
        Text text = textAt(t);
        if (text == null || n > MOST_SIGNS) {
            return BAD;
        }
        if (n < 0) {
            return found(SIZE);
        }
        text.begin(n);
        return n;
    }

    public int put(int t, int i, int v) {
        Text text = textAt(t);
        if (text == null) {
            return BAD;
        }
        int why = whyNoPlace(text.size, i);
        if (why != 0) {
            return found(why);
        }
        int was = text.signs[i];
        text.signs[i] = (byte) v;
        return was + 1000;
    }

    public int fault(int t) {
        Text text = textAt(t);
        if (text == null) {
            return BAD;
        }
        if (text.size == MISSING) {
            return found(NOTHING);
        }
        return reader.read(text);
    }

    public int embassy(int t) {
        Text text = textAt(t);
        if (text == null) {
            return BAD;
        }
        if (text.size == MISSING) {
            return found(NOTHING);
        }
        if (reader.read(text) != NONE) {
            return STATE;
        }
        now.become(reader.draft);
        for (int k = 0; k < KEEP_COUNT; k++) {
            kept[k].people = 0;
        }
        return now.people;
    }

    public int person(int a, int what) {
        if (!now.has(a) || what < 0 || what > 4) {
            return BAD;
        }
        lastAsked = now.about(a, what);
        return 1;
    }

    public int looks(int a, int b) {
        if (!now.has(a) || !now.has(b)) {
            return BAD;
        }
        return now.look(a, b);
    }

    public int mark(int a, int kind) {
        if (!now.has(a) || kind < ENVOY || kind > CHILD) {
            return BAD;
        }
        if (!Kind.isA(now.kinds[a], kind)) {
            return found(UNLIKE);
        }
        switch (kind) {
            case ENVOY:
                return now.greatestTo(a);
            case SPY:
                return now.leastTo(a);
            case VALET:
                return now.unmadeBy(a);
            case CHIEF:
                return now.howManyAre(CHIEF);
            default:
                return now.unmadeTo(a);
        }
    }

    // ---- 2 deeds

    public int step(int a) {
        if (!now.has(a)) {
            return BAD;
        }
        if (now.done >= MOST_DEEDS) {
            return FULL;
        }
        now.move(a);
        return Integer.bitCount(now.up);
    }

    public int meet(int a, int b, int looks) {
        if (!now.hasTwo(a, b) || looks < 1 || looks > MOST_LOOKS) {
            return BAD;
        }
        if (now.look(a, b) != 0) {
            return STATE;
        }
        if (now.done >= MOST_DEEDS) {
            return FULL;
        }
        now.seeFirst(a, b, looks);
        return now.unmade();
    }

    public int treat(int a, int b) {
        if (!now.hasTwo(a, b)) {
            return BAD;
        }
        if (!now.mayTreat(a, b)) {
            return STATE;
        }
        if (now.done >= MOST_DEEDS) {
            return FULL;
        }
        now.bind(a, b);
        return Long.bitCount(now.treaties);
    }

    public int undo(int n) {
        if (n < 0 || n >= now.done) {
            return BAD;
        }
        int many = now.done - n;
        now.backTo(n);
        return many;
    }

    public int keep(int k) {
        Embassy place = keptAt(k);
        if (place == null) {
            return BAD;
        }
        if (now.people == 0) {
            return STATE;
        }
        place.become(now);
        return now.done;
    }

    public int on(int k) {
        Embassy place = keptAt(k);
        if (place == null) {
            return BAD;
        }
        if (place.people == 0) {
            return found(NOTHING);
        }
        now.become(place);
        return now.done;
    }

    // ---- 3 who is what there (aside)

    public int seems(int a, int set) {
        if (!now.has(a) || !now.hasSet(set)) {
            return BAD;
        }
        return now.seeming(a, set);
    }

    public int there(int set) {
        if (!now.hasSet(set)) {
            return BAD;
        }
        int who = 0;
        for (int a = 0; a < now.people; a++) {
            if (isIn(set, a) && now.seeming(a, set) > 0) {
                who |= 1 << a;
            }
        }
        return who;
    }

    public int agree(int set) {
        if (!now.hasSet(set)) {
            return BAD;
        }
        lastAsked = now.firstAgreeing(set);
        return now.agreeing(set);
    }

    public int well() {
        if (now.people == 0) {
            return STATE;
        }
        int most = 0;
        int which = 0;
        for (int set = 0; set < 1 << now.people; set++) {
            int many = Integer.bitCount(set);
            if (many > most && now.agreeing(set) == many * (many - 1) / 2) {
                most = many;
                which = set;
            }
        }
        lastAsked = which;
        return most;
    }

    public int add(int set) {
        if (!now.hasSet(set)) {
            return BAD;
        }
        int who = NONE;
        int most = -1;
        for (int a = 0; a < now.people; a++) {
            int pairs = isIn(set, a) ? -1 : now.agreeing(set | 1 << a);
            if (pairs > most) {
                most = pairs;
                who = a;
            }
        }
        if (who != NONE) {
            lastAsked = most;
        }
        return who;
    }

    public int worst(int set) {
        if (!now.hasSet(set)) {
            return BAD;
        }
        int which = NONE;
        int most = -1;
        for (int a = 0; a < now.people; a++) {
            for (int b = a + 1; b < now.people; b++) {
                int apart = now.apart(a, b, set);
                if (apart > most) {
                    most = apart;
                    which = MOST_PEOPLE * a + b;
                }
            }
        }
        if (which != NONE) {
            lastAsked = most;
        }
        return which;
    }

    // ---- 4 steps, meetings

    public int steps(int r) {
        Row row = rowAt(r);
        if (row == null) {
            return BAD;
        }
        if (now.people == 0) {
            return STATE;
        }
        int why = whyNoPairs(row);
        if (why != 0) {
            return found(why);
        }
        int fewest = walk.fewest(now, row);
        if (fewest != NONE) {
            lastAsked = walk.firstStep;
        }
        return fewest;
    }

    public int meetings(int a, int set, int v) {
        if (!now.has(a) || !now.hasSet(set) || v < 0 || v > MOST_LOOKS) {
            return BAD;
        }
        return planned.fewest(now, a, set, v);
    }

    // ---- 5 notes

    public int fits(int a, int b, int r) {
        Row row = rowAt(r);
        if (row == null || !now.hasTwo(a, b)) {
            return BAD;
        }
        int why = whyNoNotes(row);
        if (why != 0) {
            return found(why);
        }
        int place = MOST_PEOPLE * a + b;
        int was = now.looks[place];
        int which = 0;
        for (int v = 0; v <= MOST_LOOKS; v++) {
            now.looks[place] = v;
            if (isNoted(a, now.kinds[a], row)) {
                which |= 1 << v;
            }
        }
        now.looks[place] = was;
        return which;
    }

    public int kinds(int a, int r) {
        Row row = rowAt(r);
        if (row == null || !now.has(a)) {
            return BAD;
        }
        int why = whyNoNotes(row);
        if (why != 0) {
            return found(why);
        }
        int which = 0;
        for (int kind = 0; kind < KIND_COUNT; kind++) {
            if (isNoted(a, kind, row)) {
                which |= 1 << kind;
            }
        }
        return which;
    }

    public int tells(int a) {
        if (!now.has(a)) {
            return BAD;
        }
        int most = 0;
        int which = 0;
        for (int set = 0; set < 1 << now.people; set++) {
            int sorts = sortsByKinds(a, set);
            if (sorts > most) {
                most = sorts;
                which = set;
            }
        }
        lastAsked = most;
        return which;
    }

    // ---- 6 who can know of whom

    public int knows(int a, int n) {
        if (!now.has(a) || n < 0 || n > MOST_KNOWING) {
            return BAD;
        }
        return now.known(a, n);
    }

    public int hears(int a, int b) {
        if (!now.has(a) || !now.has(b)) {
            return BAD;
        }
        for (int n = 0; n < now.people; n++) {
            if (isIn(now.known(a, n), b)) {
                return n;
            }
        }
        return NONE;
    }

    // ---- 7 by turns

    public int missions(int n) {
        if (n < 0 || n > MOST_TURNS) {
            return BAD;
        }
        if (now.people == 0) {
            return STATE;
        }
        return now.afterTurns(now.up, 2 * n);
    }

    // ---- 8 chances, lots

    public int mid(int a, int p) {
        if (!now.has(a) || p < 0 || p > TWELVE) {
            return BAD;
        }
        if (!isIn(now.up, a)) {
            return STATE;
        }
        tellWeighed(a, p, MOST_LOOKS);
        return 1;
    }

    public int odds(int a, int p) {
        if (!now.has(a) || p < 0 || p > TWELVE) {
            return BAD;
        }
        if (!isIn(now.up, a)) {
            return STATE;
        }
        tellWeighed(a, p, 1);
        return 1;
    }

    public int lots(int n, int seed) {
        if (n < 1 || n > MOST_LOTS || seed < 1 || seed >= LOT_MODULUS) {
            return BAD;
        }
        if (now.people == 0) {
            return STATE;
        }
        if (now.done + n > MOST_DEEDS) {
            return FULL;
        }
        long lot = seed;
        for (int i = 0; i < n; i++) {
            lot = LOT_FACTOR * lot % LOT_MODULUS;
            now.doByLot((int) lot);
        }
        return Long.bitCount(now.treaties);
    }

    // ---- 9 what is told

    public int asked() {
        return lastAsked;
    }

    public long upper() {
        return toldUpper;
    }

    public long lower() {
        return toldLower;
    }

    public int count(int what) {
        if (what < 0 || what > 9) {
            return BAD;
        }
        return howMany(what);
    }

    public int finding() {
        return lastFinding;
    }

    public int findings(int f) {
        if (f < NOTHING || f > SIZE) {
            return BAD;
        }
        return timesFound[f];
    }

    public long digest() {
        long h = 17L;
        for (int what = 0; what <= 9; what++) {
            h = 31L * h + howMany(what);
        }
        h = now.digestedAfter(h);
        for (int k = 0; k < KEEP_COUNT; k++) {
            h = 31L * h + (kept[k].people == 0 ? MISSING : kept[k].done);
        }
        for (int r = 0; r < ROW_COUNT; r++) {
            h = rows[r].digestedAfter(h);
        }
        for (int t = 0; t < TEXT_COUNT; t++) {
            h = texts[t].digestedAfter(h);
        }
        return h;
    }

    // ---- what the calls share

    private static boolean isIn(int set, int a) {
        return (set >> a & 1) != 0;
    }

    private Row rowAt(int r) {
        return r >= 0 && r < ROW_COUNT ? rows[r] : null;
    }

    private Text textAt(int t) {
        return t >= 0 && t < TEXT_COUNT ? texts[t] : null;
    }

    private Embassy keptAt(int k) {
        return k >= 0 && k < KEEP_COUNT ? kept[k] : null;
    }

    private int found(int f) {
        lastFinding = f;
        timesFound[f]++;
        return FINDING;
    }

    private static int whyNoPlace(int size, int i) {
        if (size == MISSING) {
            return NOTHING;
        }
        return i < 0 || i >= size ? BEYOND : 0;
    }

    private int whyNoPairs(Row row) {
        if (row.size == MISSING) {
            return NOTHING;
        }
        if (row.size % 2 != 0 || row.size < 2 || row.size > 2 * MOST_PAIRS) {
            return SIZE;
        }
        for (int i = 0; i + 1 < row.size; i += 2) {
            if (!now.hasTwo(row.places[i], row.places[i + 1])) {
                return UNLIKE;
            }
        }
        return 0;
    }

    private int whyNoNotes(Row row) {
        if (row.size == MISSING) {
            return NOTHING;
        }
        if (row.size % 2 != 0 || row.size > 2 * MOST_NOTES) {
            return SIZE;
        }
        for (int i = 0; i + 1 < row.size; i += 2) {
            int seemed = row.places[i + 1];
            if (!now.hasSet(row.places[i]) || seemed < 0 || seemed > MOST_LOOKS) {
                return UNLIKE;
            }
        }
        return 0;
    }

    private boolean isNoted(int a, int kind, Row notes) {
        for (int i = 0; i + 1 < notes.size; i += 2) {
            if (now.seemingAs(kind, a, notes.places[i]) != notes.places[i + 1]) {
                return false;
            }
        }
        return true;
    }

    private int sortsByKinds(int a, int set) {
        int seen = 0;
        for (int kind = 0; kind < KIND_COUNT; kind++) {
            seen |= 1 << now.seemingAs(kind, a, set);
        }
        return Integer.bitCount(seen);
    }

    /** With 1 as the most that counts the mean is the chance that one is there at all. */
    private void tellWeighed(int a, int p, int most) {
        int others = now.up & ~(1 << a);
        long sum = 0L;
        for (int set = 0; set < ALL_SETS; set++) {
            if ((set & ~others) == 0) {
                int stayed = Integer.bitCount(set);
                int gone = Integer.bitCount(others) - stayed;
                int counts = Math.min(now.seeming(a, set), most);
                sum += counts * power(TWELVE - p, stayed) * power(p, gone);
            }
        }
        tellRatio(sum, power(TWELVE, Integer.bitCount(others)));
    }

    private static long power(int base, int times) {
        long product = 1L;
        for (int i = 0; i < times; i++) {
            product *= base;
        }
        return product;
    }

    private void tellRatio(long above, long below) {
        long shared = below;
        long rest = above;
        // Euclid's way needs fewer than 100 turns for any two longs.
        for (int turn = 0; turn < 100 && rest != 0L; turn++) {
            long next = shared % rest;
            shared = rest;
            rest = next;
        }
        if (shared != 0L) {
            toldUpper = above / shared;
            toldLower = below / shared;
        }
    }

    private int howMany(int what) {
        switch (what) {
            case 0:
                return now.people;
            case 1:
                return now.up;
            case 2:
                return now.done;
            case 3:
                return Long.bitCount(now.treaties);
            case 4:
                return now.unmade();
            case 5:
                return now.howManyAre(ENVOY);
            case 6:
                return now.howManyAre(SPY);
            case 7:
                return rowsThere();
            case 8:
                return textsThere();
            default:
                return embassiesKept();
        }
    }

    private int rowsThere() {
        int many = 0;
        for (int r = 0; r < ROW_COUNT; r++) {
            if (rows[r].size != MISSING) {
                many++;
            }
        }
        return many;
    }

    private int textsThere() {
        int many = 0;
        for (int t = 0; t < TEXT_COUNT; t++) {
            if (texts[t].size != MISSING) {
                many++;
            }
        }
        return many;
    }

    private int embassiesKept() {
        int many = 0;
        for (int k = 0; k < KEEP_COUNT; k++) {
            if (kept[k].people != 0) {
                many++;
            }
        }
        return many;
    }

    /** A ROW; its places are made once and used again by each ROW of its number. */
    private static final class Row {
        private final int[] places = new int[MOST_PLACES];
        private int size = MISSING;

        private void begin(int n) {
            size = n;
            Arrays.fill(places, 0);
        }

        private boolean holds(int from, int many) {
            // many is taken off the size, as a sum of the two could wrap around.
            return from >= 0 && many >= 0 && from <= size - many;
        }

        private long total() {
            long sum = 0L;
            for (int i = 0; i < size; i++) {
                sum += places[i];
            }
            return sum;
        }

        private long digestedAfter(long before) {
            long h = 31L * before + size;
            for (int i = 0; i < size; i++) {
                h = 31L * h + places[i];
            }
            return h;
        }
    }

    /** A TEXT; its bytes are made once and used again by each TEXT of its number. */
    private static final class Text {
        private static final int BLANK = 32;

        private final byte[] signs = new byte[MOST_SIGNS];
        private int size = MISSING;

        private void begin(int n) {
            size = n;
            Arrays.fill(signs, (byte) BLANK);
        }

        private long digestedAfter(long before) {
            long h = 31L * before + size;
            for (int i = 0; i < size; i++) {
                h = 31L * h + signs[i];
            }
            return h;
        }
    }

    /** Reads an EMBASSY from a TEXT into a draft, so that a TEXT with a FAULT spoils nothing. */
    private static final class Reader {
        private static final int BEGIN = 110, ZERO = 48, FEWEST_PEOPLE = 2;
        private static final int END = 1000;

        private final Embassy draft = new Embassy();
        private int place = 0;

        /** The place of the FAULT (at an end that comes too early this is the size), or NONE. */
        private int read(Text text) {
            place = 0;
            skipBlanks(text);
            if (sign(text) != BEGIN) {
                return place;
            }
            place++;
            int people = sign(text) - ZERO;
            if (people < FEWEST_PEOPLE || people > MOST_PEOPLE) {
                return place;
            }
            place++;
            draft.begin(people);
            for (int a = 0; a < people; a++) {
                skipBlanks(text);
                if (!readPerson(text, a)) {
                    return place;
                }
            }
            skipBlanks(text);
            return place < text.size ? place : NONE;
        }

        private boolean readPerson(Text text, int a) {
            int kind = Kind.ofLetter(sign(text));
            if (kind < 0) {
                return false;
            }
            draft.kinds[a] = kind;
            place++;
            for (int b = 0; b < draft.people; b++) {
                int figure = sign(text) - ZERO;
                if (figure < 0 || figure > MOST_LOOKS) {
                    return false;
                }
                draft.looks[MOST_PEOPLE * a + b] = figure;
                place++;
            }
            return true;
        }

        private void skipBlanks(Text text) {
            while (place < text.size && sign(text) == Text.BLANK) {
                place++;
            }
        }

        /** The sign at the place; END, which is no byte, behind the last one. */
        private int sign(Text text) {
            return place >= 0 && place < text.size ? text.signs[place] : END;
        }
    }

    /** What KINDS make of LOOKS: they are folded one by one, by number, and then told. */
    private static final class Kind {
        private static final int[] LETTERS = {103, 101, 115, 118, 99, 107};
        private static final int[] PARENTS = {0, 0, 0, 0, ENVOY, SPY};

        private static int ofLetter(int letter) {
            for (int kind = 0; kind < KIND_COUNT; kind++) {
                if (LETTERS[kind] == letter) {
                    return kind;
                }
            }
            return -1;
        }

        private static boolean isA(int kind, int other) {
            return kind == other || PARENTS[kind] == other;
        }

        private static int fold(int kind, int before, int look, boolean first) {
            switch (kind) {
                case ENVOY:
                case CHIEF:
                    return Math.max(before, look);
                case SPY:
                    return first ? look : Math.min(before, look);
                case VALET:
                    return first ? look : before;
                case CHILD:
                    return before == 0 || look == 0 ? before + look : Math.min(before, look);
                default:
                    return before + look;
            }
        }

        private static int tell(int kind, int folded, int many) {
            if (many <= 0) {
                return 0;
            }
            switch (kind) {
                case ENVOY:
                case SPY:
                case VALET:
                case CHILD:
                    return folded;
                case CHIEF:
                    return folded == 0 ? 0 : Math.min(folded + 1, MOST_LOOKS);
                default:
                    return folded / many;
            }
        }
    }

    /** PEOPLE, who is UP, TREATIES and the DEEDS by which it came so; without PEOPLE: none. */
    private static final class Embassy {
        private final int[] kinds = new int[MOST_PEOPLE];
        private final int[] looks = new int[MOST_PEOPLE * MOST_PEOPLE];
        private final int[] deeds = new int[MOST_DEEDS];
        private int people = 0;
        private int up = 0;
        private int done = 0;
        private long treaties = 0L;

        private void begin(int many) {
            people = many;
            up = 0;
            done = 0;
            treaties = 0L;
        }

        private void become(Embassy other) {
            System.arraycopy(other.kinds, 0, kinds, 0, MOST_PEOPLE);
            System.arraycopy(other.looks, 0, looks, 0, MOST_PEOPLE * MOST_PEOPLE);
            System.arraycopy(other.deeds, 0, deeds, 0, MOST_DEEDS);
            people = other.people;
            up = other.up;
            done = other.done;
            treaties = other.treaties;
        }

        private boolean has(int a) {
            return a >= 0 && a < people;
        }

        private boolean hasTwo(int a, int b) {
            return has(a) && has(b) && a != b;
        }

        private boolean hasSet(int set) {
            return set >= 0 && set < 1 << people;
        }

        private int look(int a, int b) {
            return looks[MOST_PEOPLE * a + b];
        }

        private int about(int a, int what) {
            switch (what) {
                case 0:
                    return kinds[a];
                case 1:
                    return up >> a & 1;
                case 2:
                    return seeming(a, up);
                case 3:
                    return treatiesOf(a);
                default:
                    return unmadeBy(a);
            }
        }

        private int treatiesOf(int a) {
            int many = 0;
            for (int b = 0; b < people; b++) {
                if (b != a && (treaties & pairBit(a, b)) != 0L) {
                    many++;
                }
            }
            return many;
        }

        private static long pairBit(int a, int b) {
            return 1L << MOST_PEOPLE * Math.min(a, b) + Math.max(a, b);
        }

        private int greatestTo(int a) {
            int whom = NONE;
            for (int b = 0; b < people; b++) {
                if (b != a && (whom == NONE || look(a, b) > look(a, whom))) {
                    whom = b;
                }
            }
            return whom;
        }

        private int leastTo(int a) {
            int whom = NONE;
            for (int b = 0; b < people; b++) {
                if (b != a && (whom == NONE || look(a, b) < look(a, whom))) {
                    whom = b;
                }
            }
            return whom;
        }

        private int unmadeBy(int a) {
            int many = 0;
            for (int b = 0; b < people; b++) {
                if (b != a && look(a, b) == 0) {
                    many++;
                }
            }
            return many;
        }

        private int unmadeTo(int a) {
            int many = 0;
            for (int b = 0; b < people; b++) {
                if (b != a && look(b, a) == 0) {
                    many++;
                }
            }
            return many;
        }

        private int unmade() {
            int many = 0;
            for (int a = 0; a < people; a++) {
                many += unmadeBy(a);
            }
            return many;
        }

        private int howManyAre(int kind) {
            int many = 0;
            for (int a = 0; a < people; a++) {
                if (Kind.isA(kinds[a], kind)) {
                    many++;
                }
            }
            return many;
        }

        private int seeming(int a, int set) {
            return seemingAs(kinds[a], a, set);
        }

        private int seemingAs(int kind, int a, int set) {
            int folded = 0;
            int many = 0;
            for (int b = 0; b < people; b++) {
                if (b != a && isIn(set, b)) {
                    folded = Kind.fold(kind, folded, look(a, b), many == 0);
                    many++;
                }
            }
            return Kind.tell(kind, folded, many);
        }

        /** By how much two of a set differ; -1, if not both are of it and there. */
        private int apart(int a, int b, int set) {
            if (!isIn(set, a) || !isIn(set, b)) {
                return -1;
            }
            int one = seemingAs(kinds[a], a, set);
            int other = seemingAs(kinds[b], b, set);
            return one == 0 || other == 0 ? -1 : Math.abs(one - other);
        }

        private boolean areAgreed(int a, int b, int set) {
            int apart = apart(a, b, set);
            return apart == 0 || apart == 1;
        }

        private int agreeing(int set) {
            int many = 0;
            for (int a = 0; a < people; a++) {
                for (int b = a + 1; b < people; b++) {
                    if (areAgreed(a, b, set)) {
                        many++;
                    }
                }
            }
            return many;
        }

        private int firstAgreeing(int set) {
            for (int a = 0; a < people; a++) {
                for (int b = a + 1; b < people; b++) {
                    if (areAgreed(a, b, set)) {
                        return MOST_PEOPLE * a + b;
                    }
                }
            }
            return NONE;
        }

        private boolean mayTreat(int a, int b) {
            return a != b && (treaties & pairBit(a, b)) == 0L && areAgreed(a, b, up);
        }

        private void move(int a) {
            up ^= 1 << a;
            note(DEED_STEP, a, a);
        }

        private void seeFirst(int a, int b, int look) {
            looks[MOST_PEOPLE * a + b] = look;
            note(DEED_MEETING, a, b);
        }

        private void bind(int a, int b) {
            treaties |= pairBit(a, b);
            note(DEED_TREATY, a, b);
        }

        private void note(int deed, int a, int b) {
            if (done < MOST_DEEDS) {
                deeds[done] = deed << 6 | a << 3 | b;
                done++;
            }
        }

        private void backTo(int n) {
            while (done > n && done > 0) {
                done--;
                int a = deeds[done] >> 3 & 7;
                int b = deeds[done] & 7;
                switch (deeds[done] >> 6) {
                    case DEED_STEP:
                        up ^= 1 << a;
                        break;
                    case DEED_MEETING:
                        looks[MOST_PEOPLE * a + b] = 0;
                        break;
                    default:
                        treaties &= ~pairBit(a, b);
                        break;
                }
            }
        }

        private void doByLot(int lot) {
            if (people == 0) {
                return;
            }
            int a = lot % people;
            int b = lot / 64 % people;
            if (lot / 8 % 4 == 0 && mayTreat(a, b)) {
                bind(a, b);
            } else {
                move(a);
            }
        }

        private int known(int a, int times) {
            int known = 1 << a;
            for (int i = 0; i < times; i++) {
                known |= seenBy(known);
            }
            return known;
        }

        private int seenBy(int set) {
            int seen = 0;
            for (int a = 0; a < people; a++) {
                for (int b = 0; b < people; b++) {
                    if (isIn(set, b) && look(a, b) > 0) {
                        seen |= 1 << a;
                    }
                }
            }
            return seen;
        }

        /** Turns go down from an even number: with an even one left it is the first mission's. */
        private int afterTurns(int set, int left) {
            if (left <= 0 || set == (1 << people) - 1) {
                return agreeing(set);
            }
            boolean wantsMany = left % 2 == 0;
            int best = NONE;
            for (int a = 0; a < people; a++) {
                if (!isIn(set, a)) {
                    int pairs = afterTurns(set | 1 << a, left - 1);
                    if (best == NONE || (wantsMany ? pairs > best : pairs < best)) {
                        best = pairs;
                    }
                }
            }
            return best;
        }

        private long digestedAfter(long before) {
            long h = before;
            for (int a = 0; a < people; a++) {
                for (int what = 0; what <= 4; what++) {
                    h = 31L * h + about(a, what);
                }
                for (int b = 0; b < people; b++) {
                    h = 31L * h + look(a, b);
                }
            }
            return h;
        }
    }

    /** The fewest steps: a search by breadth over who is UP and which told pairs have agreed. */
    private static final class Walk {
        private static final int MASKS = 1 << MOST_PAIRS;

        private final int[] agreed = new int[ALL_SETS];
        private final int[] queue = new int[ALL_SETS * MASKS];
        // 0: not reached; else 1, 8 times the steps and the first one of these are added up.
        private final int[] reached = new int[ALL_SETS * MASKS];
        private int firstStep = NONE;

        /** Ways are taken by numbers, so that the first one at an end is the first of the fewest. */
        private int fewest(Embassy embassy, Row pairs) {
            learn(embassy, pairs);
            Arrays.fill(reached, 0);
            int all = (1 << pairs.size / 2) - 1;
            queue[0] = embassy.up * MASKS + agreed[embassy.up];
            reached[queue[0]] = 1;
            int tail = 1;
            for (int head = 0; head < tail && head < queue.length; head++) {
                int state = queue[head];
                int way = reached[state] - 1;
                if (state % MASKS == all) {
                    firstStep = way == 0 ? NONE : way % 8;
                    return way / 8;
                }
                for (int a = 0; a < embassy.people; a++) {
                    int up = state / MASKS ^ 1 << a;
                    int next = up * MASKS + (state % MASKS | agreed[up]);
                    if (reached[next] == 0 && tail < queue.length) {
                        reached[next] = 1 + (way == 0 ? 8 + a : way + 8);
                        queue[tail] = next;
                        tail++;
                    }
                }
            }
            return NONE;
        }

        private void learn(Embassy embassy, Row pairs) {
            for (int set = 0; set < 1 << embassy.people; set++) {
                agreed[set] = 0;
                for (int i = 0; i + 1 < pairs.size; i += 2) {
                    if (embassy.areAgreed(pairs.places[i], pairs.places[i + 1], set)) {
                        agreed[set] |= 1 << i / 2;
                    }
                }
            }
        }
    }

    /** The fewest first MEETINGS for each way in which LOOKS can fold, one other after another. */
    private static final class Meetings {
        private static final int FOLDS = MOST_LOOKS * MOST_PEOPLE + 1, NEVER = 100;

        private final int[] least = new int[FOLDS];
        private final int[] before = new int[FOLDS];

        private int fewest(Embassy embassy, int a, int set, int v) {
            int kind = embassy.kinds[a];
            int many = 0;
            Arrays.fill(least, NEVER);
            least[0] = 0;
            for (int b = 0; b < embassy.people; b++) {
                if (b != a && isIn(set, b)) {
                    foldIn(kind, embassy.look(a, b), many == 0);
                    many++;
                }
            }
            int best = NEVER;
            for (int folded = 0; folded < FOLDS; folded++) {
                if (Kind.tell(kind, folded, many) == v) {
                    best = Math.min(best, least[folded]);
                }
            }
            return best == NEVER ? NONE : best;
        }

        private void foldIn(int kind, int look, boolean first) {
            System.arraycopy(least, 0, before, 0, FOLDS);
            Arrays.fill(least, NEVER);
            int greatest = look == 0 ? MOST_LOOKS : look;
            for (int folded = 0; folded < FOLDS; folded++) {
                for (int made = look; made <= greatest && before[folded] < NEVER; made++) {
                    int next = Kind.fold(kind, folded, made, first);
                    int meetings = before[folded] + (made == look ? 0 : 1);
                    if (next < FOLDS) {
                        least[next] = Math.min(least[next], meetings);
                    }
                }
            }
        }
    }
}
