/**
 * A registry of named shades: whoever first names a shade has it, and all others pay.
 * The document ../shared/DOC.md says, promise by promise, what each call answers.
 *
 * Everything that a call works with is made once, by the constructor: the calls of a run share
 * one small room of objects.
 */
public final class ShadeNames {
    public static final int BAD = -1, FULL = -2, FINDING = -3, STATE = -4, SPENT = -6, NONE = -9;

    private static final int NOTHING = 1;
    private static final int BEYOND = 2;
    private static final int UNLIKE = 3;
    private static final int NOUGHT = 4;
    private static final int SIZE = 5;
    private static final int FINDINGS = 5;

    /** No refusal has this number, so helpers answer it for "nothing to refuse". */
    private static final int FINE = 0;

    private static final int ROWS = 6;
    private static final int TEXTS = 4;
    private static final int KEEPS = 3;
    private static final int OWNERS = 4;
    private static final int RANGES = 10;
    private static final int DUES = 10;
    private static final int EYES = 16;
    private static final int ALL_EYES = 0xFFFF;
    private static final int TOLD_OF_NAMES = 7;
    private static final int COUNTED = 9;
    private static final int YEARS_AHEAD = 6;
    private static final int YEARS_BACK = 9;
    private static final int MOST_MIXINGS = 3;
    private static final int MOST_LOTS = 40;
    private static final long LOT_FACTOR = 48271;
    private static final long LOT_MODULUS = 2147483647;
    /** A byte may be below 0 and is told this much higher, so that it looks like no refusal. */
    private static final int BYTE_LIFT = 1000;

    private final Row[] rows;
    private final Text[] texts;
    private final Registry names;
    private final Registry[] kept;
    private final Cover covering;
    private final Palette palette;
    private final boolean[] open;
    private final boolean[] chosen;
    private final int[] found;
    private int latestFinding;
    private int told;
    private long chanceUpper;
    private long chanceLower;

    public ShadeNames() {
        rows = new Row[ROWS];
        for (int r = 0; r < ROWS; r++) {
            rows[r] = new Row();
        }
        texts = new Text[TEXTS];
        for (int t = 0; t < TEXTS; t++) {
            texts[t] = new Text();
        }
        names = new Registry();
        kept = new Registry[KEEPS];
        for (int k = 0; k < KEEPS; k++) {
            kept[k] = new Registry();
        }
        covering = new Cover();
        palette = new Palette();
        open = new boolean[Shade.ALL];
        chosen = new boolean[Shade.ALL];
        found = new int[FINDINGS + 1];
        chanceLower = 1;
    }

    // ---- 1 rows, texts, registries

    public int row(int r, int n) {
        if (!among(r, ROWS) || n > Row.MOST) {
            return BAD;
        }
        if (n < 0) {
            return findingOf(SIZE);
        }
        rows[r].begin(n);
        return n;
    }

    public int lay(int r, int i, int v) {
        int refusal = refusalOfPlace(r, i);
        if (refusal != FINE) {
            return refusal;
        }
        told = rows[r].places[i];
        rows[r].places[i] = v;
        return 1;
    }

    public int at(int r, int i) {
        int refusal = refusalOfPlace(r, i);
        if (refusal != FINE) {
            return refusal;
        }
        told = rows[r].places[i];
        return 1;
    }

    public int tear(int r) {
        int refusal = refusalOfRow(r);
        if (refusal != FINE) {
            return refusal;
        }
        rows[r].remove();
        return 1;
    }

    public int copy(int r, int i, int to, int j, int n) {
        if (!among(r, ROWS) || !among(to, ROWS)) {
            return BAD;
        }
        if (n < 0) {
            return findingOf(SIZE);
        }
        if (!rows[r].isThere() || !rows[to].isThere()) {
            return findingOf(NOTHING);
        }
        if (!rows[r].holds(i, n) || !rows[to].holds(j, n)) {
            return findingOf(BEYOND);
        }
        System.arraycopy(rows[r].places, i, rows[to].places, j, n);
        return 1;
    }

    public int mean(int r) {
        int refusal = refusalOfRow(r);
        if (refusal != FINE) {
            return refusal;
        }
        int shares = rows[r].size;
        if (shares == 0) {
            return findingOf(NOUGHT);
        }
        told = (int) (rows[r].sum() / shares);
        return 1;
    }

    public int text(int t, int n) {
        if (!among(t, TEXTS) || n > Text.MOST) {
            return BAD;
        }
        if (n < 0) {
            return findingOf(SIZE);
        }
        texts[t].begin(n);
        return n;
    }

    public int put(int t, int i, int v) {
        int refusal = refusalOfText(t);
        if (refusal != FINE) {
            return refusal;
        }
        if (!among(i, texts[t].size)) {
            return findingOf(BEYOND);
        }
        int before = texts[t].signs[i];
        texts[t].signs[i] = (byte) v;
        return before + BYTE_LIFT;
    }

    public int fault(int t) {
        int refusal = refusalOfText(t);
        return refusal != FINE ? refusal : texts[t].firstFault();
    }

    public int registry(int t) {
        int refusal = refusalOfText(t);
        if (refusal != FINE) {
            return refusal;
        }
        if (texts[t].firstFault() != NONE) {
            return STATE;
        }
        texts[t].writeInto(names);
        for (int k = 0; k < KEEPS; k++) {
            kept[k].begin();
        }
        return names.size;
    }

    public int name(int k, int what) {
        if (!among(k, names.size) || !among(what, TOLD_OF_NAMES)) {
            return BAD;
        }
        told = tellOf(k, what);
        return 1;
    }

    public int mark(int k, int kind) {
        if (!among(k, names.size) || !among(kind, Kind.MANY) || kind == Kind.NAME) {
            return BAD;
        }
        if (!Kind.isOf(names.all[k].kind, kind)) {
            return findingOf(UNLIKE);
        }
        switch (kind) {
            case Kind.WIDE:
                return names.countCalledBy(k);
            case Kind.SHARP:
                return names.countMissedBySharpness(k);
            case Kind.LIGHT:
                return names.countReachedOfOwnLight(k);
            case Kind.DEEP:
                return names.countOthersReached(k);
            default:
                return names.countReachedBehindOthers(k);
        }
    }

    public int due(int k, int v) {
        if (!among(k, names.size) || !among(v, DUES)) {
            return BAD;
        }
        int before = names.all[k].dues;
        names.all[k].dues = v;
        return before;
    }

    // ---- 2 deeds

    public int say(int kind, int shade, int range, int owner) {
        if (!among(kind, Kind.MANY) || !among(shade, Shade.ALL)
                || !among(range, RANGES) || !among(owner, OWNERS)) {
            return BAD;
        }
        if (names.size == 0 || names.callerOf(shade, 0) != NONE) {
            return STATE;
        }
        if (names.size >= Registry.MOST_NAMES || names.deeds >= Registry.MOST_DEEDS) {
            return FULL;
        }
        return names.addSaid(kind, shade, range, owner);
    }

    public int year() {
        if (names.size == 0) {
            return STATE;
        }
        if (names.deeds >= Registry.MOST_DEEDS) {
            return FULL;
        }
        return names.passYear();
    }

    public int undo(int n) {
        // the number of the next deed is taken, too: from there on nothing is undone
        if (!among(n, names.deeds + 1)) {
            return BAD;
        }
        return names.undoFrom(n);
    }

    public int keep(int k) {
        if (!among(k, KEEPS)) {
            return BAD;
        }
        if (names.size == 0) {
            return STATE;
        }
        kept[k].become(names);
        return names.deeds;
    }

    public int on(int k) {
        if (!among(k, KEEPS)) {
            return BAD;
        }
        if (kept[k].size == 0) {
            return findingOf(NOTHING);
        }
        names.become(kept[k]);
        return names.deeds;
    }

    // ---- 3 what a shade is called

    public int apart(int shade, int other) {
        if (!among(shade, Shade.ALL) || !among(other, Shade.ALL)) {
            return BAD;
        }
        return farApart(shade, other);
    }

    public int called(int shade) {
        if (!among(shade, Shade.ALL)) {
            return BAD;
        }
        told = names.reachersOf(shade);
        return names.callerOf(shade, 0);
    }

    public int owes(int person, int shade) {
        if (!among(person, OWNERS) || !among(shade, Shade.ALL)) {
            return BAD;
        }
        return names.owedBy(person, shade);
    }

    public int disputed() {
        for (int shade = 0; shade < Shade.ALL; shade++) {
            chosen[shade] = names.isDisputed(shade);
        }
        return tellChosen();
    }

    public int free() {
        for (int shade = 0; shade < Shade.ALL; shade++) {
            chosen[shade] = names.callerOf(shade, 0) == NONE;
        }
        return tellChosen();
    }

    public int gap(int kind, int range) {
        if (!among(kind, Kind.MANY) || !among(range, RANGES)) {
            return BAD;
        }
        for (int shade = 0; shade < Shade.ALL; shade++) {
            open[shade] = names.callerOf(shade, 0) == NONE;
        }
        for (int shade = 0; shade < Shade.ALL; shade++) {
            chosen[shade] = open[shade] && reachesOpenAlone(kind, shade, range);
        }
        return tellChosen();
    }

    public int lives(int person, int r) {
        if (!among(person, OWNERS)) {
            return BAD;
        }
        int refusal = refusalOfShades(r, 0, Row.MOST);
        if (refusal != FINE) {
            return refusal;
        }
        int dues = 0;
        for (int i = 0; i < rows[r].size; i++) {
            dues += (OWNERS - 1) * names.owedTo(person, rows[r].places[i]);
        }
        return dues;
    }

    // ---- 4 the fewest

    public int cover(int r, int range) {
        if (!among(range, RANGES)) {
            return BAD;
        }
        int refusal = refusalOfShades(r, 0, Cover.MOST);
        return refusal != FINE ? refusal : covering.fewest(rows[r], range);
    }

    public int best(int r, int range) {
        if (!among(range, RANGES)) {
            return BAD;
        }
        int refusal = refusalOfShades(r, 0, Cover.MOST);
        if (refusal != FINE) {
            return refusal;
        }
        int first = 0;
        int most = -1;
        for (int shade = 0; shade < Shade.ALL; shade++) {
            int many = Integer.bitCount(Cover.placesReached(rows[r], shade, range));
            if (many > most) {
                first = shade;
                most = many;
            }
        }
        told = most;
        return first;
    }

    public int mix(int r, int shade) {
        if (!among(shade, Shade.ALL)) {
            return BAD;
        }
        int refusal = refusalOfShades(r, 1, Palette.MOST);
        if (refusal != FINE) {
            return refusal;
        }
        for (int other = 0; other < Shade.ALL; other++) {
            chosen[other] = other == shade;
        }
        return palette.fewestMixings(rows[r], chosen);
    }

    public int cheap(int r, int person) {
        if (!among(person, OWNERS)) {
            return BAD;
        }
        int refusal = refusalOfShades(r, 1, Palette.MOST);
        if (refusal != FINE) {
            return refusal;
        }
        for (int shade = 0; shade < Shade.ALL; shade++) {
            chosen[shade] = names.owedBy(person, shade) == 0;
        }
        int fewest = palette.fewestMixings(rows[r], chosen);
        if (fewest != NONE) {
            told = palette.least;
        }
        return fewest;
    }

    // ---- 5 eyes, disputes

    public int eyes(int r) {
        int refusal = refusalOfSayings(r);
        return refusal != FINE ? refusal : eyesLeftBy(rows[r]);
    }

    public int show(int r) {
        int refusal = refusalOfSayings(r);
        if (refusal != FINE) {
            return refusal;
        }
        int left = eyesLeftBy(rows[r]);
        int many = Integer.bitCount(left);
        if (many < 2) {
            return NONE;
        }
        int next = 0;
        int smallest = many + 1;
        for (int far = 0; far < EYES; far++) {
            int alike = Integer.bitCount(left & eyesSayingAlike(far));
            int greater = Math.max(alike, many - alike);
            if (greater < smallest) {
                next = far;
                smallest = greater;
            }
        }
        return next;
    }

    public int judged(int r, int shade, int other) {
        if (!among(shade, Shade.ALL) || !among(other, Shade.ALL)) {
            return BAD;
        }
        int refusal = refusalOfJudges(r);
        if (refusal != FINE) {
            return refusal;
        }
        int far = farApart(shade, other);
        int alike = 0;
        for (int i = 0; i < rows[r].size; i++) {
            alike += saysAlike(rows[r].places[i], far);
        }
        int verdict = alike >= 2 ? 1 : 0;
        told = NONE;
        for (int i = 0; i < rows[r].size; i++) {
            if (saysAlike(rows[r].places[i], far) != verdict) {
                told = i;
            }
        }
        return verdict;
    }

    // ---- 6 fading

    public int lost(int k) {
        if (!among(k, names.size)) {
            return BAD;
        }
        for (int later = 0; later <= YEARS_AHEAD; later++) {
            if (names.ownerOf(names.shadeOf(k, later), later) != names.all[k].owner) {
                return later;
            }
        }
        return NONE;
    }

    public int moves(int n) {
        if (!among(n, YEARS_AHEAD + 1)) {
            return BAD;
        }
        int moved = 0;
        for (int shade = 0; shade < Shade.ALL; shade++) {
            if (names.ownerOf(shade, n) != names.ownerOf(shade, 0)) {
                moved++;
            }
        }
        return moved;
    }

    public int was(int shade, int n) {
        if (!among(shade, Shade.ALL) || !among(n, YEARS_BACK + 1)) {
            return BAD;
        }
        for (int before = 0; before < Shade.ALL; before++) {
            chosen[before] = Shade.faded(before, n) == shade;
        }
        int first = tellChosen();
        int many = told;
        told = first;
        return many;
    }

    public int kinds(int k, int many) {
        if (!among(k, names.size) || !among(many, Shade.ALL + 1)) {
            return BAD;
        }
        int shade = names.shadeOf(k, 0);
        int range = names.all[k].range;
        int possible = 0;
        for (int kind = 0; kind < Kind.MANY; kind++) {
            if (Kind.countReached(kind, shade, range) == many) {
                possible |= 1 << kind;
            }
        }
        return possible;
    }

    // ---- 7 chances, lots

    public int odds(int person) {
        if (!among(person, OWNERS)) {
            return BAD;
        }
        int own = 0;
        for (int shade = 0; shade < Shade.ALL; shade++) {
            if (names.ownerOf(shade, 0) == person) {
                own++;
            }
        }
        tellChance(own, Shade.ALL);
        return 1;
    }

    public int mid(int person) {
        if (!among(person, OWNERS)) {
            return BAD;
        }
        int owed = 0;
        for (int shade = 0; shade < Shade.ALL; shade++) {
            owed += names.owedBy(person, shade);
        }
        tellChance(owed, Shade.ALL);
        return 1;
    }

    public int lots(int person, int n, int seed) {
        if (!among(person, OWNERS) || n < 1 || n > MOST_LOTS || seed < 1 || seed >= LOT_MODULUS) {
            return BAD;
        }
        long lot = seed;
        int owed = 0;
        for (int i = 0; i < n; i++) {
            lot = lot * LOT_FACTOR % LOT_MODULUS;
            owed += names.owedBy(person, (int) (lot / 8 % Shade.ALL));
        }
        return owed;
    }

    // ---- 8 what is told

    public int asked() {
        return told;
    }

    public long upper() {
        return chanceUpper;
    }

    public long lower() {
        return chanceLower;
    }

    public int count(int what) {
        switch (what) {
            case 0:
                return names.size;
            case 1:
                return names.deeds;
            case 2:
                return names.countFading();
            case 3:
                return names.sumOfDues();
            case 4:
                return names.countOfKind(Kind.WIDE);
            case 5:
                return names.countOfKind(Kind.SHARP);
            case 6:
                return countRows();
            case 7:
                return countTexts();
            case 8:
                return countKept();
            default:
                return BAD;
        }
    }

    public int finding() {
        return latestFinding;
    }

    public int findings(int f) {
        if (f < 1 || f > FINDINGS) {
            return BAD;
        }
        return found[f];
    }

    public long digest() {
        long h = 17;
        for (int what = 0; what < COUNTED; what++) {
            h = 31 * h + count(what);
        }
        for (int k = 0; k < names.size; k++) {
            for (int what = 0; what < TOLD_OF_NAMES; what++) {
                h = 31 * h + tellOf(k, what);
            }
        }
        for (int k = 0; k < KEEPS; k++) {
            h = 31 * h + (kept[k].size == 0 ? -1 : kept[k].deeds);
        }
        for (int r = 0; r < ROWS; r++) {
            h = rows[r].digestOnto(h);
        }
        for (int t = 0; t < TEXTS; t++) {
            h = texts[t].digestOnto(h);
        }
        return h;
    }

    // ---- what is refused

    private static boolean among(int v, int many) {
        return v >= 0 && v < many;
    }

    private int findingOf(int which) {
        latestFinding = which;
        found[which]++;
        return FINDING;
    }

    private int refusalOfRow(int r) {
        if (!among(r, ROWS)) {
            return BAD;
        }
        return rows[r].isThere() ? FINE : findingOf(NOTHING);
    }

    private int refusalOfPlace(int r, int i) {
        int refusal = refusalOfRow(r);
        if (refusal != FINE) {
            return refusal;
        }
        return among(i, rows[r].size) ? FINE : findingOf(BEYOND);
    }

    private int refusalOfText(int t) {
        if (!among(t, TEXTS)) {
            return BAD;
        }
        return texts[t].isThere() ? FINE : findingOf(NOTHING);
    }

    private int refusalOfShades(int r, int fewest, int most) {
        int refusal = refusalOfRow(r);
        if (refusal != FINE) {
            return refusal;
        }
        if (rows[r].size < fewest || rows[r].size > most) {
            return findingOf(SIZE);
        }
        return rows[r].holdsOnlyBelow(Shade.ALL) ? FINE : findingOf(UNLIKE);
    }

    private int refusalOfSayings(int r) {
        int refusal = refusalOfRow(r);
        if (refusal != FINE) {
            return refusal;
        }
        if (rows[r].size % 3 != 0) {
            return findingOf(SIZE);
        }
        for (int i = 0; i < rows[r].size; i++) {
            if (!among(rows[r].places[i], i % 3 == 2 ? 2 : Shade.ALL)) {
                return findingOf(UNLIKE);
            }
        }
        return FINE;
    }

    private int refusalOfJudges(int r) {
        int refusal = refusalOfRow(r);
        if (refusal != FINE) {
            return refusal;
        }
        if (rows[r].size != 3) {
            return findingOf(SIZE);
        }
        return rows[r].holdsOnlyBelow(EYES) ? FINE : findingOf(UNLIKE);
    }

    // ---- what the calls share

    /** Of a name that is there. */
    private int tellOf(int k, int what) {
        Name name = names.all[k];
        switch (what) {
            case 0:
                return name.kind;
            case 1:
                return names.shadeOf(k, 0);
            case 2:
                return name.range;
            case 3:
                return name.owner;
            case 4:
                return name.dues;
            case 5:
                return name.fades ? 1 : 0;
            default:
                return Kind.countReached(name.kind, names.shadeOf(k, 0), name.range);
        }
    }

    /** Tells how many shades are chosen, and answers the first. */
    private int tellChosen() {
        int first = NONE;
        told = 0;
        for (int shade = 0; shade < Shade.ALL; shade++) {
            if (chosen[shade]) {
                told++;
                if (first == NONE) {
                    first = shade;
                }
            }
        }
        return first;
    }

    private boolean reachesOpenAlone(int kind, int own, int range) {
        for (int shade = 0; shade < Shade.ALL; shade++) {
            if (!open[shade] && Kind.reaches(kind, own, range, shade)) {
                return false;
            }
        }
        return true;
    }

    /** Shades alone are as far apart as a plain name is from a shade. */
    private static int farApart(int shade, int other) {
        return Kind.farFrom(Kind.NAME, shade, other);
    }

    private static int eyesSayingAlike(int far) {
        return ALL_EYES << far & ALL_EYES;
    }

    private static int saysAlike(int eye, int far) {
        return far <= eye ? 1 : 0;
    }

    private static int eyesLeftBy(Row sayings) {
        int left = ALL_EYES;
        for (int i = 0; i + 2 < sayings.size; i += 3) {
            int alike = eyesSayingAlike(farApart(sayings.places[i], sayings.places[i + 1]));
            left &= sayings.places[i + 2] == 1 ? alike : ~alike;
        }
        return left;
    }

    private void tellChance(long upper, long lower) {
        long divisor = greatestDivisor(upper, lower);
        if (divisor != 0) {
            chanceUpper = upper / divisor;
            chanceLower = lower / divisor;
        }
    }

    private static long greatestDivisor(long v, long other) {
        // each two steps halve the numbers at least, so that no long takes as many steps as this
        for (int step = 0; step < 200 && other != 0; step++) {
            long rest = v % other;
            v = other;
            other = rest;
        }
        return v;
    }

    private int countRows() {
        int many = 0;
        for (int r = 0; r < ROWS; r++) {
            many += rows[r].isThere() ? 1 : 0;
        }
        return many;
    }

    private int countTexts() {
        int many = 0;
        for (int t = 0; t < TEXTS; t++) {
            many += texts[t].isThere() ? 1 : 0;
        }
        return many;
    }

    private int countKept() {
        int many = 0;
        for (int k = 0; k < KEEPS; k++) {
            many += kept[k].size > 0 ? 1 : 0;
        }
        return many;
    }

    /** Shades by their numbers; the callers have tested that these are shades. */
    private static final class Shade {
        static final int ALL = 216;

        static int of(int a, int b, int c) {
            return 36 * a + 6 * b + c;
        }

        static int partA(int shade) {
            return shade / 36;
        }

        static int partB(int shade) {
            return shade / 6 % 6;
        }

        static int partC(int shade) {
            return shade % 6;
        }

        static int mixed(int shade, int other) {
            return of((partA(shade) + partA(other)) / 2,
                    (partB(shade) + partB(other)) / 2,
                    (partC(shade) + partC(other)) / 2);
        }

        static int faded(int shade, int years) {
            return of(Math.max(0, partA(shade) - years), partB(shade), partC(shade));
        }
    }

    /** Kinds of names by their numbers, and how far each reaches. */
    private static final class Kind {
        static final int NAME = 0;
        static final int WIDE = 1;
        static final int SHARP = 2;
        static final int LIGHT = 3;
        static final int DEEP = 4;
        static final int POETS = 5;
        static final int MANY = 6;

        private static final String LETTERS = "nwsldp";

        /** Below 0, if the sign is no kind's letter. */
        static int ofLetter(int sign) {
            for (int kind = 0; kind < LETTERS.length(); kind++) {
                if (LETTERS.charAt(kind) == sign) {
                    return kind;
                }
            }
            return -1;
        }

        static boolean isOf(int kind, int wider) {
            if (kind == wider || wider == NAME) {
                return true;
            }
            return kind == DEEP && wider == WIDE || kind == POETS && wider == SHARP;
        }

        static int farFrom(int kind, int own, int shade) {
            int a = Math.abs(Shade.partA(own) - Shade.partA(shade));
            int b = Math.abs(Shade.partB(own) - Shade.partB(shade));
            int c = Math.abs(Shade.partC(own) - Shade.partC(shade));
            switch (kind) {
                case WIDE:
                    return Math.max(a, Math.max(b, c));
                case DEEP:
                    return Math.max(a, b);
                case LIGHT:
                    return 2 * a + b + c;
                default:
                    return a + b + c;
            }
        }

        static boolean reaches(int kind, int own, int range, int shade) {
            int far = farFrom(kind, own, shade);
            if (isOf(kind, SHARP)) {
                return far < range || own == shade;
            }
            return far <= range;
        }

        static int countReached(int kind, int own, int range) {
            int many = 0;
            for (int shade = 0; shade < Shade.ALL; shade++) {
                if (reaches(kind, own, range, shade)) {
                    many++;
                }
            }
            return many;
        }
    }

    private static final class Name {
        int kind;
        /** The shade of year 0: years that are undone must give back what stopped at 0. */
        int origin;
        int range;
        int owner;
        int dues;
        boolean fades;

        int owed() {
            return kind == Kind.POETS ? 0 : dues;
        }

        void takeFrom(Name other) {
            kind = other.kind;
            origin = other.origin;
            range = other.range;
            owner = other.owner;
            dues = other.dues;
            fades = other.fades;
        }
    }

    /** Names and deeds; one without names is none. In a call, "later" is years from now. */
    private static final class Registry {
        static final int MOST_NAMES = 8;
        static final int MOST_DEEDS = 40;

        final Name[] all;
        int size;
        final boolean[] wasSaying;
        int deeds;
        int years;

        Registry() {
            all = new Name[MOST_NAMES];
            for (int k = 0; k < MOST_NAMES; k++) {
                all[k] = new Name();
            }
            wasSaying = new boolean[MOST_DEEDS];
        }

        void begin() {
            size = 0;
            deeds = 0;
            years = 0;
        }

        void become(Registry other) {
            size = other.size;
            deeds = other.deeds;
            years = other.years;
            for (int k = 0; k < MOST_NAMES; k++) {
                all[k].takeFrom(other.all[k]);
            }
            for (int i = 0; i < MOST_DEEDS; i++) {
                wasSaying[i] = other.wasSaying[i];
            }
        }

        /** The next name; the caller has tested that there is room. */
        Name grow() {
            Name next = all[size];
            size++;
            return next;
        }

        int addSaid(int kind, int shade, int range, int owner) {
            Name next = grow();
            next.kind = kind;
            next.origin = shade;
            next.range = range;
            next.owner = owner;
            next.dues = 1;
            next.fades = false;
            wasSaying[deeds] = true;
            deeds++;
            return size - 1;
        }

        int passYear() {
            int changed = 0;
            for (int k = 0; k < size; k++) {
                if (shadeOf(k, 1) != shadeOf(k, 0)) {
                    changed++;
                }
            }
            wasSaying[deeds] = false;
            deeds++;
            years++;
            return changed;
        }

        int undoFrom(int n) {
            int undone = deeds - n;
            for (int i = n; i < deeds; i++) {
                // what was said last stands last, so that the names that go are the last ones
                if (wasSaying[i]) {
                    size--;
                } else {
                    years--;
                }
            }
            deeds = n;
            return undone;
        }

        int shadeOf(int k, int later) {
            Name name = all[k];
            return name.fades ? Shade.faded(name.origin, years + later) : name.origin;
        }

        boolean nameReaches(int k, int shade, int later) {
            return Kind.reaches(all[k].kind, shadeOf(k, later), all[k].range, shade);
        }

        int callerOf(int shade, int later) {
            for (int k = 0; k < size; k++) {
                if (nameReaches(k, shade, later)) {
                    return k;
                }
            }
            return NONE;
        }

        int ownerOf(int shade, int later) {
            int caller = callerOf(shade, later);
            return caller == NONE ? NONE : all[caller].owner;
        }

        int reachersOf(int shade) {
            int reachers = 0;
            for (int k = 0; k < size; k++) {
                if (nameReaches(k, shade, 0)) {
                    reachers |= 1 << k;
                }
            }
            return reachers;
        }

        boolean isDisputed(int shade) {
            int owner = NONE;
            for (int k = 0; k < size; k++) {
                if (nameReaches(k, shade, 0)) {
                    if (owner != NONE && owner != all[k].owner) {
                        return true;
                    }
                    owner = all[k].owner;
                }
            }
            return false;
        }

        int owedBy(int person, int shade) {
            int caller = callerOf(shade, 0);
            return caller == NONE || all[caller].owner == person ? 0 : all[caller].owed();
        }

        /** By each of the others who says the shade. */
        int owedTo(int person, int shade) {
            int caller = callerOf(shade, 0);
            return caller == NONE || all[caller].owner != person ? 0 : all[caller].owed();
        }

        int countCalledBy(int k) {
            int many = 0;
            for (int shade = 0; shade < Shade.ALL; shade++) {
                if (callerOf(shade, 0) == k) {
                    many++;
                }
            }
            return many;
        }

        int countMissedBySharpness(int k) {
            int shade = shadeOf(k, 0);
            int range = all[k].range;
            return Kind.countReached(Kind.NAME, shade, range)
                    - Kind.countReached(all[k].kind, shade, range);
        }

        int countReachedOfOwnLight(int k) {
            int own = Shade.partA(shadeOf(k, 0));
            int many = 0;
            for (int shade = 0; shade < Shade.ALL; shade++) {
                if (Shade.partA(shade) == own && nameReaches(k, shade, 0)) {
                    many++;
                }
            }
            return many;
        }

        int countOthersReached(int k) {
            int many = 0;
            for (int other = 0; other < size; other++) {
                if (other != k && nameReaches(k, shadeOf(other, 0), 0)) {
                    many++;
                }
            }
            return many;
        }

        /** Of the shades that a name reaches, those that are called by one ahead of it. */
        int countReachedBehindOthers(int k) {
            int many = 0;
            for (int shade = 0; shade < Shade.ALL; shade++) {
                if (nameReaches(k, shade, 0) && callerOf(shade, 0) < k) {
                    many++;
                }
            }
            return many;
        }

        int countFading() {
            int many = 0;
            for (int k = 0; k < size; k++) {
                many += all[k].fades ? 1 : 0;
            }
            return many;
        }

        int sumOfDues() {
            int sum = 0;
            for (int k = 0; k < size; k++) {
                sum += all[k].dues;
            }
            return sum;
        }

        int countOfKind(int kind) {
            int many = 0;
            for (int k = 0; k < size; k++) {
                many += Kind.isOf(all[k].kind, kind) ? 1 : 0;
            }
            return many;
        }
    }

    private static final class Row {
        static final int MOST = 40;

        final int[] places;
        int size;

        Row() {
            places = new int[MOST];
            size = -1;
        }

        void begin(int n) {
            size = n;
            for (int i = 0; i < MOST; i++) {
                places[i] = 0;
            }
        }

        void remove() {
            size = -1;
        }

        boolean isThere() {
            return size >= 0;
        }

        /** For n not below 0: a sum of both numbers could be too great for an int. */
        boolean holds(int from, int n) {
            return from >= 0 && from <= size - n;
        }

        boolean holdsOnlyBelow(int bound) {
            for (int i = 0; i < size; i++) {
                if (!among(places[i], bound)) {
                    return false;
                }
            }
            return true;
        }

        long sum() {
            long sum = 0;
            for (int i = 0; i < size; i++) {
                sum += places[i];
            }
            return sum;
        }

        long digestOnto(long h) {
            h = 31 * h + size;
            for (int i = 0; i < size; i++) {
                h = 31 * h + places[i];
            }
            return h;
        }
    }

    /** A row of bytes, and a registry written in it. */
    private static final class Text {
        static final int MOST = 80;

        private static final int BLANK = 32;
        private static final int NOUGHT_SIGN = 48;
        private static final int ITEM = 8;
        /** Of each figure behind the letter: a, b, c, range, owner, due, whether it fades. */
        private static final int[] GREATEST = {5, 5, 5, 9, 3, 9, 1};

        final byte[] signs;
        int size;

        Text() {
            signs = new byte[MOST];
            size = -1;
        }

        void begin(int n) {
            size = n;
            for (int i = 0; i < MOST; i++) {
                signs[i] = BLANK;
            }
        }

        boolean isThere() {
            return size >= 0;
        }

        int firstFault() {
            int items = 0;
            int i = 0;
            while (i < size) {
                if (signs[i] == BLANK) {
                    i++;
                    continue;
                }
                if (items == Registry.MOST_NAMES) {
                    return i;
                }
                int fault = faultOfItem(i);
                if (fault != NONE) {
                    return fault;
                }
                items++;
                i += ITEM;
            }
            return items == 0 ? size : NONE;
        }

        private int faultOfItem(int from) {
            for (int i = from; i < from + ITEM; i++) {
                if (i >= size) {
                    return size;
                }
                if (!fits(i - from, signs[i])) {
                    return i;
                }
            }
            return NONE;
        }

        private static boolean fits(int placeInItem, int sign) {
            if (placeInItem == 0) {
                return Kind.ofLetter(sign) >= 0;
            }
            return among(sign - NOUGHT_SIGN, GREATEST[placeInItem - 1] + 1);
        }

        /** Only of a text without a fault. */
        void writeInto(Registry registry) {
            registry.begin();
            int i = 0;
            while (i + ITEM <= size && registry.size < Registry.MOST_NAMES) {
                if (signs[i] == BLANK) {
                    i++;
                    continue;
                }
                writeItem(i, registry.grow());
                i += ITEM;
            }
        }

        private void writeItem(int from, Name name) {
            name.kind = Kind.ofLetter(signs[from]);
            name.origin = Shade.of(figure(from + 1), figure(from + 2), figure(from + 3));
            name.range = figure(from + 4);
            name.owner = figure(from + 5);
            name.dues = figure(from + 6);
            name.fades = figure(from + 7) == 1;
        }

        private int figure(int i) {
            return signs[i] - NOUGHT_SIGN;
        }

        long digestOnto(long h) {
            h = 31 * h + size;
            for (int i = 0; i < size; i++) {
                h = 31 * h + signs[i];
            }
            return h;
        }
    }

    /** The fewest plain names for the places of a row; sets of places are told by bits. */
    private static final class Cover {
        static final int MOST = 6;

        private final boolean[] canBeReached;
        private final int[] fewestFor;

        Cover() {
            canBeReached = new boolean[1 << MOST];
            fewestFor = new int[1 << MOST];
        }

        static int placesReached(Row row, int own, int range) {
            int reached = 0;
            for (int i = 0; i < row.size; i++) {
                if (Kind.reaches(Kind.NAME, own, range, row.places[i])) {
                    reached |= 1 << i;
                }
            }
            return reached;
        }

        /** Of a row of at most six shades. */
        int fewest(Row row, int range) {
            int sets = 1 << row.size;
            for (int set = 0; set < sets; set++) {
                canBeReached[set] = false;
            }
            for (int shade = 0; shade < Shade.ALL; shade++) {
                canBeReached[placesReached(row, shade, range)] = true;
            }
            fewestFor[0] = 0;
            for (int set = 1; set < sets; set++) {
                fewestFor[set] = fewestOf(set, sets);
            }
            return fewestFor[sets - 1];
        }

        /** Those of all smaller sets are known: what one name leaves of a set is smaller. */
        private int fewestOf(int set, int sets) {
            int fewest = MOST;
            for (int reached = 1; reached < sets; reached++) {
                if (canBeReached[reached] && (reached & set) != 0) {
                    fewest = Math.min(fewest, 1 + fewestFor[set & ~reached]);
                }
            }
            return fewest;
        }
    }

    /** Shades that are there: those of a row, and behind them what was mixed. */
    private static final class Palette {
        static final int MOST = 4;

        private final int[] there;
        /** The least wanted shade that was there by as few mixings as could be. */
        int least;

        Palette() {
            there = new int[MOST + MOST_MIXINGS];
        }

        /** From a row of at most four shades. */
        int fewestMixings(Row row, boolean[] wanted) {
            for (int i = 0; i < row.size; i++) {
                there[i] = row.places[i];
            }
            for (int times = 0; times <= MOST_MIXINGS; times++) {
                least = leastBy(times, row.size, there, wanted);
                if (least != NONE) {
                    return times;
                }
            }
            return NONE;
        }

        /** By just so many mixings more, in every way; at most three, so that it goes no deeper. */
        private static int leastBy(int times, int filled, int[] there, boolean[] wanted) {
            if (times <= 0 || filled >= there.length) {
                return leastOf(filled, there, wanted);
            }
            int first = NONE;
            for (int i = 1; i < filled; i++) {
                for (int j = 0; j < i; j++) {
                    there[filled] = Shade.mixed(there[i], there[j]);
                    first = lesser(first, leastBy(times - 1, filled + 1, there, wanted));
                }
            }
            return first;
        }

        private static int leastOf(int filled, int[] there, boolean[] wanted) {
            int first = NONE;
            for (int i = 0; i < filled; i++) {
                if (wanted[there[i]]) {
                    first = lesser(first, there[i]);
                }
            }
            return first;
        }

        private static int lesser(int shade, int other) {
            if (shade == NONE || other == NONE) {
                return shade == NONE ? other : shade;
            }
            return Math.min(shade, other);
        }
    }
}
