import java.util.ArrayList;
import java.util.Arrays;
import java.util.HashSet;
import java.util.List;
import java.util.Set;
import java.util.TreeSet;

/**
 * The document once more, told in another way: by sets, lists, snapshots and by trying all.
 * It is slow, and shares no code with the class that it is held against.
 */
final class Model {
    static final int BAD = -1, FULL = -2, FINDING = -3, STATE = -4, NONE = -9;
    private static final String LETTERS = "nwsldp";

    private record Item(char letter, int a, int b, int c, int range, int owner, int due, boolean fades) {
        Item withDue(int v) {
            return new Item(letter, a, b, c, range, owner, v, fades);
        }

        Item older() {
            return fades && a > 0 ? new Item(letter, a - 1, b, c, range, owner, due, true) : this;
        }

        int shade() {
            return a * 36 + b * 6 + c;
        }

        Set<Integer> reach() {
            return reachOf(letter, a, b, c, range);
        }
    }

    /** Names as they stand, and how they stood ahead of each deed. */
    private static final class Book {
        List<Item> items = new ArrayList<>();
        List<List<Item>> ahead = new ArrayList<>();

        Book twin() {
            Book other = new Book();
            other.items = new ArrayList<>(items);
            for (List<Item> one : ahead) {
                other.ahead.add(new ArrayList<>(one));
            }
            return other;
        }
    }

    private final int[][] rows = new int[6][];
    private final byte[][] texts = new byte[4][];
    private Book book = new Book();
    private final Book[] kept = new Book[3];
    private final int[] found = new int[6];
    private int latest;
    private long told;
    private long up;
    private long low = 1;

    static Set<Integer> reachOf(char letter, int a, int b, int c, int range) {
        Set<Integer> reached = new TreeSet<>();
        for (int i = 0; i < 6; i++) {
            for (int j = 0; j < 6; j++) {
                for (int k = 0; k < 6; k++) {
                    int x = Math.abs(i - a);
                    int y = Math.abs(j - b);
                    int z = Math.abs(k - c);
                    boolean in;
                    if (letter == 'w') {
                        in = x <= range && y <= range && z <= range;
                    } else if (letter == 'd') {
                        in = x <= range && y <= range;
                    } else if (letter == 'l') {
                        in = x + x + y + z <= range;
                    } else if (letter == 's' || letter == 'p') {
                        in = x + y + z < range || x + y + z == 0;
                    } else {
                        in = x + y + z <= range;
                    }
                    if (in) {
                        reached.add(i * 36 + j * 6 + k);
                    }
                }
            }
        }
        return reached;
    }

    private long find(int f) {
        latest = f;
        found[f]++;
        return FINDING;
    }

    private static boolean in(int v, int least, int most) {
        return least <= v && v <= most;
    }

    long answer(String call, int[] v) {
        switch (call) {
            case "row": return row(v[0], v[1]);
            case "lay": return place(v[0], v[1], true, v[2]);
            case "at": return place(v[0], v[1], false, 0);
            case "tear": return tear(v[0]);
            case "copy": return copy(v[0], v[1], v[2], v[3], v[4]);
            case "mean": return mean(v[0]);
            case "text": return text(v[0], v[1]);
            case "put": return put(v[0], v[1], v[2]);
            case "fault": return fault(v[0]);
            case "registry": return registry(v[0]);
            case "name": return name(v[0], v[1]);
            case "mark": return mark(v[0], v[1]);
            case "due": return due(v[0], v[1]);
            case "say": return say(v[0], v[1], v[2], v[3]);
            case "year": return year();
            case "undo": return undo(v[0]);
            case "keep": return keep(v[0]);
            case "on": return on(v[0]);
            case "apart": return in(v[0], 0, 215) && in(v[1], 0, 215) ? apart(v[0], v[1]) : BAD;
            case "called": return called(v[0]);
            case "owes": return in(v[0], 0, 3) && in(v[1], 0, 215) ? owed(v[0], v[1]) : BAD;
            case "disputed": return disputed();
            case "free": return firstOf(freeOnes());
            case "gap": return gap(v[0], v[1]);
            case "lives": return lives(v[0], v[1]);
            case "cover": return cover(v[0], v[1]);
            case "best": return best(v[0], v[1]);
            case "mix": return in(v[1], 0, 215) ? mixTo(v[0], Set.of(v[1]), false) : BAD;
            case "cheap": return in(v[1], 0, 3) ? mixTo(v[0], duty(v[1]), true) : BAD;
            case "eyes": return eyes(v[0]);
            case "show": return show(v[0]);
            case "judged": return judged(v[0], v[1], v[2]);
            case "lost": return lost(v[0]);
            case "moves": return moves(v[0]);
            case "was": return was(v[0], v[1]);
            case "kinds": return kinds(v[0], v[1]);
            case "odds": return odds(v[0]);
            case "mid": return mid(v[0]);
            case "lots": return lots(v[0], v[1], v[2]);
            case "asked": return told;
            case "upper": return up;
            case "lower": return low;
            case "count": return in(v[0], 0, 8) ? count(v[0]) : BAD;
            case "finding": return latest;
            case "findings": return in(v[0], 1, 5) ? found[v[0]] : BAD;
            case "digest": return digest();
            default: throw new IllegalArgumentException(call);
        }
    }

    private long row(int r, int n) {
        if (!in(r, 0, 5) || n > 40) return BAD;
        if (n < 0) return find(5);
        rows[r] = new int[n];
        return n;
    }

    private long place(int r, int i, boolean laid, int v) {
        if (!in(r, 0, 5)) return BAD;
        if (rows[r] == null) return find(1);
        if (!in(i, 0, rows[r].length - 1)) return find(2);
        told = rows[r][i];
        if (laid) rows[r][i] = v;
        return 1;
    }

    private long tear(int r) {
        if (!in(r, 0, 5)) return BAD;
        if (rows[r] == null) return find(1);
        rows[r] = null;
        return 1;
    }

    private long copy(int r, int i, int to, int j, int n) {
        if (!in(r, 0, 5) || !in(to, 0, 5)) return BAD;
        if (n < 0) return find(5);
        if (rows[r] == null || rows[to] == null) return find(1);
        if (i < 0 || j < 0 || (long) i + n > rows[r].length || (long) j + n > rows[to].length) return find(2);
        int[] taken = Arrays.copyOfRange(rows[r], i, i + n);
        for (int at = 0; at < n; at++) rows[to][j + at] = taken[at];
        return 1;
    }

    private long mean(int r) {
        if (!in(r, 0, 5)) return BAD;
        if (rows[r] == null) return find(1);
        if (rows[r].length == 0) return find(4);
        double sum = 0;
        for (int v : rows[r]) sum += v;
        told = (long) (sum / rows[r].length);
        return 1;
    }

    private long text(int t, int n) {
        if (!in(t, 0, 3) || n > 80) return BAD;
        if (n < 0) return find(5);
        texts[t] = new byte[n];
        Arrays.fill(texts[t], (byte) ' ');
        return n;
    }

    private long put(int t, int i, int v) {
        if (!in(t, 0, 3)) return BAD;
        if (texts[t] == null) return find(1);
        if (!in(i, 0, texts[t].length - 1)) return find(2);
        int before = texts[t][i];
        texts[t][i] = (byte) v;
        return 1000 + before;
    }

    /** Reads sign by sign: what is wanted next is 0 between items, else the place within one. */
    private static int read(byte[] signs, List<Item> into) {
        String greatest = " 5559391";
        int within = 0;
        int[] figures = new int[8];
        for (int i = 0; i < signs.length; i++) {
            char sign = (char) (signs[i] & 255);
            if (within == 0) {
                if (sign == ' ') continue;
                if (into.size() == 8 || LETTERS.indexOf(sign) < 0) return i;
                figures[0] = sign;
            } else {
                if (sign < '0' || sign > greatest.charAt(within)) return i;
                figures[within] = sign - '0';
            }
            within++;
            if (within == 8) {
                into.add(new Item((char) figures[0], figures[1], figures[2], figures[3],
                        figures[4], figures[5], figures[6], figures[7] == 1));
                within = 0;
            }
        }
        return within != 0 || into.isEmpty() ? signs.length : NONE;
    }

    private long fault(int t) {
        if (!in(t, 0, 3)) return BAD;
        if (texts[t] == null) return find(1);
        return read(texts[t], new ArrayList<>());
    }

    private long registry(int t) {
        if (!in(t, 0, 3)) return BAD;
        if (texts[t] == null) return find(1);
        Book next = new Book();
        if (read(texts[t], next.items) != NONE) return STATE;
        book = next;
        Arrays.fill(kept, null);
        return book.items.size();
    }

    private boolean isName(int k) {
        return in(k, 0, book.items.size() - 1);
    }

    private long tell(Item one, int what) {
        switch (what) {
            case 0: return LETTERS.indexOf(one.letter);
            case 1: return one.shade();
            case 2: return one.range;
            case 3: return one.owner;
            case 4: return one.due;
            case 5: return one.fades ? 1 : 0;
            default: return one.reach().size();
        }
    }

    private long name(int k, int what) {
        if (!isName(k) || !in(what, 0, 6)) return BAD;
        told = tell(book.items.get(k), what);
        return 1;
    }

    private long mark(int k, int kind) {
        if (!isName(k) || !in(kind, 1, 5)) return BAD;
        Item one = book.items.get(k);
        String those = new String[] {"", "wd", "sp", "l", "d", "p"}[kind];
        if (those.indexOf(one.letter) < 0) return find(3);
        Set<Integer> told = new HashSet<>(one.reach());
        switch (kind) {
            case 1:
                for (int i = 0; i < k; i++) told.removeAll(book.items.get(i).reach());
                return told.size();
            case 2:
                return reachOf('n', one.a, one.b, one.c, one.range).size() - told.size();
            case 3:
                told.removeIf(shade -> shade / 36 != one.a);
                return told.size();
            case 4:
                int others = 0;
                for (int i = 0; i < book.items.size(); i++) {
                    if (i != k && told.contains(book.items.get(i).shade())) others++;
                }
                return others;
            default:
                Set<Integer> before = new HashSet<>();
                for (int i = 0; i < k; i++) before.addAll(book.items.get(i).reach());
                told.retainAll(before);
                return told.size();
        }
    }

    private long due(int k, int v) {
        if (!isName(k) || !in(v, 0, 9)) return BAD;
        Item one = book.items.get(k);
        book.items.set(k, one.withDue(v));
        return one.due;
    }

    private Set<Integer> freeOnes() {
        Set<Integer> left = new TreeSet<>();
        for (int shade = 0; shade < 216; shade++) left.add(shade);
        for (Item one : book.items) left.removeAll(one.reach());
        return left;
    }

    private long say(int kind, int shade, int range, int owner) {
        if (!in(kind, 0, 5) || !in(shade, 0, 215) || !in(range, 0, 9) || !in(owner, 0, 3)) return BAD;
        if (book.items.isEmpty() || !freeOnes().contains(shade)) return STATE;
        if (book.items.size() == 8 || book.ahead.size() == 40) return FULL;
        book.ahead.add(new ArrayList<>(book.items));
        book.items.add(new Item(LETTERS.charAt(kind), shade / 36, shade / 6 % 6, shade % 6, range, owner, 1, false));
        return book.items.size() - 1;
    }

    private static List<Item> older(List<Item> items, int years) {
        List<Item> now = new ArrayList<>(items);
        for (int y = 0; y < years; y++) now.replaceAll(Item::older);
        return now;
    }

    private long year() {
        if (book.items.isEmpty()) return STATE;
        if (book.ahead.size() == 40) return FULL;
        book.ahead.add(new ArrayList<>(book.items));
        List<Item> then = older(book.items, 1);
        int changed = 0;
        for (int k = 0; k < then.size(); k++) {
            if (then.get(k).shade() != book.items.get(k).shade()) changed++;
        }
        book.items = then;
        return changed;
    }

    private long undo(int n) {
        if (!in(n, 0, book.ahead.size())) return BAD;
        int undone = book.ahead.size() - n;
        if (undone > 0) {
            List<Item> before = book.ahead.get(n);
            for (int k = 0; k < before.size(); k++) {
                before.set(k, before.get(k).withDue(book.items.get(k).due));
            }
            book.items = before;
            while (book.ahead.size() > n) book.ahead.remove(n);
        }
        return undone;
    }

    private long keep(int k) {
        if (!in(k, 0, 2)) return BAD;
        if (book.items.isEmpty()) return STATE;
        kept[k] = book.twin();
        return book.ahead.size();
    }

    private long on(int k) {
        if (!in(k, 0, 2)) return BAD;
        if (kept[k] == null) return find(1);
        book = kept[k].twin();
        return book.ahead.size();
    }

    private static int apart(int shade, int other) {
        return Math.abs(shade / 36 - other / 36) + Math.abs(shade / 6 % 6 - other / 6 % 6)
                + Math.abs(shade % 6 - other % 6);
    }

    private static Item caller(List<Item> items, int shade) {
        for (Item one : items) {
            if (one.reach().contains(shade)) return one;
        }
        return null;
    }

    private long called(int shade) {
        if (!in(shade, 0, 215)) return BAD;
        told = 0;
        long first = NONE;
        for (int k = book.items.size() - 1; k >= 0; k--) {
            if (book.items.get(k).reach().contains(shade)) {
                told += 1L << k;
                first = k;
            }
        }
        return first;
    }

    private int[] callers() {
        int[] by = new int[216];
        Arrays.fill(by, NONE);
        for (int k = book.items.size() - 1; k >= 0; k--) {
            for (int shade : book.items.get(k).reach()) by[shade] = k;
        }
        return by;
    }

    private int owed(int person, int shade) {
        Item one = caller(book.items, shade);
        return one == null || one.owner == person || one.letter == 'p' ? 0 : one.due;
    }

    private Set<Integer> duty(int person) {
        Set<Integer> nothing = new HashSet<>();
        int[] by = callers();
        for (int shade = 0; shade < 216; shade++) {
            Item one = by[shade] == NONE ? null : book.items.get(by[shade]);
            if (one == null || one.owner == person || one.letter == 'p' || one.due == 0) nothing.add(shade);
        }
        return nothing;
    }

    private long firstOf(Set<Integer> shades) {
        told = shades.size();
        int first = 999;
        for (int shade : shades) first = Math.min(first, shade);
        return shades.isEmpty() ? NONE : first;
    }

    private long disputed() {
        Set<Integer> two = new HashSet<>();
        for (Item one : book.items) {
            for (Item other : book.items) {
                if (one.owner < other.owner) {
                    Set<Integer> both = new HashSet<>(one.reach());
                    both.retainAll(other.reach());
                    two.addAll(both);
                }
            }
        }
        return firstOf(two);
    }

    private long gap(int kind, int range) {
        if (!in(kind, 0, 5) || !in(range, 0, 9)) return BAD;
        Set<Integer> left = freeOnes();
        Set<Integer> fits = new HashSet<>();
        for (int shade = 0; shade < 216; shade++) {
            if (left.containsAll(reachOf(LETTERS.charAt(kind), shade / 36, shade / 6 % 6, shade % 6, range))) {
                fits.add(shade);
            }
        }
        return firstOf(fits);
    }

    /** What refuses a row of shades, or 0. */
    private long rowFault(int r, int fewest, int most) {
        if (!in(r, 0, 5)) return BAD;
        if (rows[r] == null) return find(1);
        if (!in(rows[r].length, fewest, most)) return find(5);
        for (int v : rows[r]) {
            if (!in(v, 0, 215)) return find(3);
        }
        return 0;
    }

    private long lives(int person, int r) {
        if (!in(person, 0, 3)) return BAD;
        long no = rowFault(r, 0, 40);
        if (no != 0) return no;
        int has = 0;
        for (int shade : rows[r]) {
            Item one = caller(book.items, shade);
            if (one != null && one.owner == person && one.letter != 'p') has += 3 * one.due;
        }
        return has;
    }

    private long cover(int r, int range) {
        if (!in(range, 0, 9)) return BAD;
        long no = rowFault(r, 0, 6);
        if (no != 0) return no;
        Set<Integer> left = new TreeSet<>();
        for (int shade : rows[r]) left.add(shade);
        for (int many = 0; ; many++) {
            if (coveredBy(many, left, range)) return many;
        }
    }

    private static boolean coveredBy(int many, Set<Integer> left, int range) {
        if (left.isEmpty()) return true;
        if (many == 0) return false;
        int first = left.iterator().next();
        for (int centre = 0; centre < 216; centre++) {
            if (apart(centre, first) > range) continue;
            Set<Integer> then = new TreeSet<>();
            for (int shade : left) {
                if (apart(centre, shade) > range) then.add(shade);
            }
            if (coveredBy(many - 1, then, range)) return true;
        }
        return false;
    }

    private long best(int r, int range) {
        if (!in(range, 0, 9)) return BAD;
        long no = rowFault(r, 0, 6);
        if (no != 0) return no;
        int[] many = new int[216];
        int most = 0;
        for (int centre = 0; centre < 216; centre++) {
            for (int shade : rows[r]) {
                if (apart(centre, shade) <= range) many[centre]++;
            }
            most = Math.max(most, many[centre]);
        }
        told = most;
        for (int centre = 0; ; centre++) {
            if (many[centre] == most) return centre;
        }
    }

    private static int mixed(int x, int y) {
        return (x / 36 + y / 36) / 2 * 36 + (x / 6 % 6 + y / 6 % 6) / 2 * 6 + (x % 6 + y % 6) / 2;
    }

    private long mixTo(int r, Set<Integer> wanted, boolean tells) {
        long no = rowFault(r, 1, 4);
        if (no != 0) return no;
        Set<Set<Integer>> states = new HashSet<>();
        Set<Integer> start = new TreeSet<>();
        for (int shade : rows[r]) start.add(shade);
        states.add(start);
        for (int times = 0; times <= 3; times++) {
            Set<Integer> hits = new TreeSet<>();
            for (Set<Integer> state : states) {
                for (int shade : state) {
                    if (wanted.contains(shade)) hits.add(shade);
                }
            }
            if (!hits.isEmpty()) {
                if (tells) told = hits.iterator().next();
                return times;
            }
            Set<Set<Integer>> next = new HashSet<>();
            for (Set<Integer> state : states) {
                for (int x : state) {
                    for (int y : state) {
                        Set<Integer> then = new TreeSet<>(state);
                        then.add(mixed(x, y));
                        next.add(then);
                    }
                }
            }
            states = next;
        }
        return NONE;
    }

    private long sayingsFault(int r) {
        if (!in(r, 0, 5)) return BAD;
        if (rows[r] == null) return find(1);
        if (rows[r].length % 3 != 0) return find(5);
        for (int i = 0; i < rows[r].length; i += 3) {
            if (!in(rows[r][i], 0, 215) || !in(rows[r][i + 1], 0, 215) || !in(rows[r][i + 2], 0, 1)) return find(3);
        }
        return 0;
    }

    private List<Integer> eyesOf(int[] said) {
        List<Integer> left = new ArrayList<>();
        for (int eye = 0; eye <= 15; eye++) {
            boolean so = true;
            for (int i = 0; i < said.length; i += 3) {
                so &= (apart(said[i], said[i + 1]) <= eye ? 1 : 0) == said[i + 2];
            }
            if (so) left.add(eye);
        }
        return left;
    }

    private long eyes(int r) {
        long no = sayingsFault(r);
        if (no != 0) return no;
        long bits = 0;
        for (int eye : eyesOf(rows[r])) bits += 1L << eye;
        return bits;
    }

    private long show(int r) {
        long no = sayingsFault(r);
        if (no != 0) return no;
        List<Integer> left = eyesOf(rows[r]);
        if (left.size() < 2) return NONE;
        int next = -1;
        int smallest = 99;
        for (int far = 15; far >= 0; far--) {
            int alike = 0;
            int not = 0;
            for (int eye : left) {
                if (far <= eye) alike++;
                else not++;
            }
            if (Math.max(alike, not) <= smallest) {
                smallest = Math.max(alike, not);
                next = far;
            }
        }
        return next;
    }

    private long judged(int r, int shade, int other) {
        if (!in(r, 0, 5) || !in(shade, 0, 215) || !in(other, 0, 215)) return BAD;
        if (rows[r] == null) return find(1);
        if (rows[r].length != 3) return find(5);
        for (int eye : rows[r]) {
            if (!in(eye, 0, 15)) return find(3);
        }
        boolean x = apart(shade, other) <= rows[r][0];
        boolean y = apart(shade, other) <= rows[r][1];
        boolean z = apart(shade, other) <= rows[r][2];
        told = x == y && y == z ? NONE : x == y ? 2 : x == z ? 1 : 0;
        return x && y || y && z || x && z ? 1 : 0;
    }

    private long lost(int k) {
        if (!isName(k)) return BAD;
        for (int years = 0; years <= 6; years++) {
            List<Item> then = older(book.items, years);
            Item by = caller(then, then.get(k).shade());
            if (by.owner != then.get(k).owner) return years;
        }
        return NONE;
    }

    private static int[] owners(List<Item> items) {
        int[] owners = new int[216];
        Arrays.fill(owners, -7);
        for (int k = items.size() - 1; k >= 0; k--) {
            for (int shade : items.get(k).reach()) owners[shade] = items.get(k).owner;
        }
        return owners;
    }

    private long moves(int n) {
        if (!in(n, 0, 6)) return BAD;
        int[] now = owners(book.items);
        int[] then = owners(older(book.items, n));
        int moved = 0;
        for (int shade = 0; shade < 216; shade++) moved += now[shade] != then[shade] ? 1 : 0;
        return moved;
    }

    private long was(int shade, int n) {
        if (!in(shade, 0, 215) || !in(n, 0, 9)) return BAD;
        Set<Integer> from = new TreeSet<>();
        for (int a = 0; a < 6; a++) {
            int faded = a;
            for (int y = 0; y < n; y++) faded = faded > 0 ? faded - 1 : 0;
            if (faded == shade / 36) from.add(a * 36 + shade % 36);
        }
        told = firstOf(from);
        return from.size();
    }

    private long kinds(int k, int many) {
        if (!isName(k) || !in(many, 0, 216)) return BAD;
        Item one = book.items.get(k);
        int bits = 0;
        for (int kind = 0; kind < 6; kind++) {
            if (reachOf(LETTERS.charAt(kind), one.a, one.b, one.c, one.range).size() == many) bits += 1 << kind;
        }
        return bits;
    }

    private void chance(int of) {
        int by = 216;
        for (int d = 216; d > 1; d--) {
            if (of % d == 0 && by % d == 0) {
                of /= d;
                by /= d;
            }
        }
        up = of;
        low = by;
    }

    private long odds(int person) {
        if (!in(person, 0, 3)) return BAD;
        int own = 0;
        for (int owner : owners(book.items)) own += owner == person ? 1 : 0;
        chance(own);
        return 1;
    }

    private long mid(int person) {
        if (!in(person, 0, 3)) return BAD;
        int sum = 0;
        for (int by : callers()) {
            Item one = by == NONE ? null : book.items.get(by);
            if (one != null && one.owner != person && one.letter != 'p') sum += one.due;
        }
        chance(sum);
        return 1;
    }

    private long lots(int person, int n, int seed) {
        if (!in(person, 0, 3) || !in(n, 1, 40) || !in(seed, 1, 2147483646)) return BAD;
        java.math.BigInteger lot = java.math.BigInteger.valueOf(seed);
        java.math.BigInteger factor = java.math.BigInteger.valueOf(48271);
        java.math.BigInteger modulus = java.math.BigInteger.valueOf(2147483647);
        int owes = 0;
        for (int i = 0; i < n; i++) {
            lot = lot.multiply(factor).mod(modulus);
            owes += owed(person, lot.intValueExact() / 8 % 216);
        }
        return owes;
    }

    private long count(int what) {
        long many = 0;
        for (Item one : book.items) {
            if (what == 0 || what == 2 && one.fades || what == 4 && "wd".indexOf(one.letter) >= 0
                    || what == 5 && "sp".indexOf(one.letter) >= 0) many++;
            if (what == 3) many += one.due;
        }
        if (what == 1) many = book.ahead.size();
        if (what == 6) for (int[] row : rows) many += row != null ? 1 : 0;
        if (what == 7) for (byte[] text : texts) many += text != null ? 1 : 0;
        if (what == 8) for (Book one : kept) many += one != null ? 1 : 0;
        return many;
    }

    private long digest() {
        List<Long> all = new ArrayList<>();
        for (int what = 0; what <= 8; what++) all.add(count(what));
        for (Item one : book.items) {
            for (int what = 0; what <= 6; what++) all.add(tell(one, what));
        }
        for (Book one : kept) all.add(one == null ? -1L : one.ahead.size());
        for (int[] row : rows) {
            all.add(row == null ? -1L : row.length);
            if (row != null) for (int v : row) all.add((long) v);
        }
        for (byte[] text : texts) {
            all.add(text == null ? -1L : text.length);
            if (text != null) for (byte v : text) all.add((long) v);
        }
        long h = 17;
        for (long v : all) h = 31 * h + v;
        return h;
    }
}
