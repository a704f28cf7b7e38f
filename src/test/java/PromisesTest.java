/** For each promise of the document: ordinary inputs, edges, wrong inputs. */
public final class PromisesTest {
    private static final int BAD = -1, FULL = -2, FINDING = -3, STATE = -4, NONE = -9;
    private static final int NOTHING = 1, BEYOND = 2, UNLIKE = 3, NOUGHT = 4, SIZE = 5;
    private static final int MIN = Integer.MIN_VALUE, MAX = Integer.MAX_VALUE;

    private static final Due due = new Due("promises");

    public static void main(String[] args) {
        newObject();
        row();
        lay();
        at();
        tear();
        copy();
        mean();
        text();
        put();
        fault();
        registry();
        name();
        mark();
        dueOfName();
        say();
        year();
        undo();
        keep();
        on();
        apart();
        called();
        owes();
        disputed();
        free();
        gap();
        lives();
        cover();
        best();
        mix();
        cheap();
        eyes();
        show();
        judged();
        lost();
        moves();
        was();
        kinds();
        odds();
        mid();
        lots();
        asked();
        upperAndLower();
        count();
        finding();
        findings();
        digest();
        due.end();
    }

    /** A call was refused by a finding, of this number. */
    private static void found(ShadeNames x, String call, long got, int which) {
        due.is(call, got, FINDING);
        due.is(call + ", finding()", x.finding(), which);
    }

    private static void isRow(ShadeNames x, int r, int... places) {
        for (int i = 0; i < places.length; i++) {
            due.is("at(" + r + ", " + i + ")", x.at(r, i), 1);
            due.is("at(" + r + ", " + i + ") asked()", x.asked(), places[i]);
        }
        due.is("at(" + r + ", " + places.length + ")", x.at(r, places.length), FINDING);
    }

    private static void isName(ShadeNames x, int k, int... told) {
        for (int what = 0; what < told.length; what++) {
            due.is("name(" + k + ", " + what + ")", x.name(k, what), 1);
            due.is("name(" + k + ", " + what + ") asked()", x.asked(), told[what]);
        }
    }

    private static void newObject() {
        due.part("1 new object");
        ShadeNames x = new ShadeNames();
        for (int what = 0; what <= 8; what++) {
            due.is("count(" + what + ")", x.count(what), 0);
        }
        due.is("asked()", x.asked(), 0);
        due.is("upper()", x.upper(), 0);
        due.is("lower()", x.lower(), 1);
        due.is("finding()", x.finding(), 0);
        for (int f = 1; f <= 5; f++) {
            due.is("findings(" + f + ")", x.findings(f), 0);
        }
        for (int r = 0; r < 6; r++) {
            found(x, "tear(" + r + ")", x.tear(r), NOTHING);
        }
        for (int t = 0; t < 4; t++) {
            found(x, "fault(" + t + ")", x.fault(t), NOTHING);
        }
        due.is("name(0, 0)", x.name(0, 0), BAD);
    }

    private static void row() {
        due.part("2 row");
        ShadeNames x = new ShadeNames();
        due.is("row(0, 3)", x.row(0, 3), 3);
        isRow(x, 0, 0, 0, 0);
        due.is("row(5, 40)", x.row(5, 40), 40);
        due.is("row(1, 0)", x.row(1, 0), 0);
        due.is("count(6)", x.count(6), 3);
        due.is("row(-1, 1)", x.row(-1, 1), BAD);
        due.is("row(6, 1)", x.row(6, 1), BAD);
        due.is("row(0, 41)", x.row(0, 41), BAD);
        due.is("row(0, MAX)", x.row(0, MAX), BAD);
        due.is("row(6, -1) is BAD ahead of SIZE", x.row(6, -1), BAD);
        due.is("finding()", x.finding(), BEYOND);
        found(x, "row(0, -1)", x.row(0, -1), SIZE);
        found(x, "row(0, MIN)", x.row(0, MIN), SIZE);
        isRow(x, 0, 0, 0, 0);
        x.lay(0, 1, 7);
        due.is("row(0, 2) anew", x.row(0, 2), 2);
        isRow(x, 0, 0, 0);
        x.row(0, 3);
        isRow(x, 0, 0, 0, 0);
    }

    private static void lay() {
        due.part("3 lay");
        ShadeNames x = new ShadeNames();
        found(x, "lay of a missing row", x.lay(0, 0, 1), NOTHING);
        x.row(0, 2);
        due.is("lay(0, 1, 7)", x.lay(0, 1, 7), 1);
        due.is("asked()", x.asked(), 0);
        due.is("lay(0, 1, MIN)", x.lay(0, 1, MIN), 1);
        due.is("asked()", x.asked(), 7);
        due.is("lay(0, 0, MAX)", x.lay(0, 0, MAX), 1);
        isRow(x, 0, MAX, MIN);
        due.is("lay(-1, 0, 1)", x.lay(-1, 0, 1), BAD);
        due.is("lay(6, 0, 1)", x.lay(6, 0, 1), BAD);
        found(x, "lay(0, 2, 1)", x.lay(0, 2, 1), BEYOND);
        found(x, "lay(0, -1, 1)", x.lay(0, -1, 1), BEYOND);
        found(x, "lay(1, -1, 1): NOTHING ahead of BEYOND", x.lay(1, -1, 1), NOTHING);
        due.is("asked() is not changed by refusals", x.asked(), MIN);
    }

    private static void at() {
        due.part("4 at");
        ShadeNames x = new ShadeNames();
        Runs.fill(x, 3, 5, -6, 7);
        due.is("at(3, 1)", x.at(3, 1), 1);
        due.is("asked()", x.asked(), -6);
        due.is("at(3, 2)", x.at(3, 2), 1);
        due.is("asked()", x.asked(), 7);
        found(x, "at(3, 3)", x.at(3, 3), BEYOND);
        found(x, "at(3, -1)", x.at(3, -1), BEYOND);
        found(x, "at(3, MAX)", x.at(3, MAX), BEYOND);
        found(x, "at(2, 0)", x.at(2, 0), NOTHING);
        due.is("at(6, 0)", x.at(6, 0), BAD);
        due.is("at(-1, 0)", x.at(-1, 0), BAD);
        due.is("asked()", x.asked(), 7);
    }

    private static void tear() {
        due.part("5 tear");
        ShadeNames x = new ShadeNames();
        Runs.fill(x, 4, 1, 2);
        due.is("tear(4)", x.tear(4), 1);
        due.is("count(6)", x.count(6), 0);
        found(x, "at(4, 0)", x.at(4, 0), NOTHING);
        found(x, "tear(4)", x.tear(4), NOTHING);
        due.is("tear(-1)", x.tear(-1), BAD);
        due.is("tear(6)", x.tear(6), BAD);
        x.row(4, 2);
        isRow(x, 4, 0, 0);
        x.row(5, 0);
        due.is("tear of a row of none", x.tear(5), 1);
    }

    private static void copy() {
        due.part("6 copy");
        ShadeNames x = new ShadeNames();
        Runs.fill(x, 0, 1, 2, 3, 4, 5);
        Runs.fill(x, 1, 6, 7, 8);
        due.is("copy(0, 2, 1, 1, 2)", x.copy(0, 2, 1, 1, 2), 1);
        isRow(x, 1, 6, 3, 4);
        isRow(x, 0, 1, 2, 3, 4, 5);
        due.is("copy(0, 0, 0, 1, 4)", x.copy(0, 0, 0, 1, 4), 1);
        isRow(x, 0, 1, 1, 2, 3, 4);
        due.is("copy(0, 1, 0, 0, 4)", x.copy(0, 1, 0, 0, 4), 1);
        isRow(x, 0, 1, 2, 3, 4, 4);
        due.is("none, at the end", x.copy(0, 5, 1, 3, 0), 1);
        found(x, "none, beyond the end", x.copy(0, 6, 1, 3, 0), BEYOND);
        found(x, "none, beyond the other's end", x.copy(0, 5, 1, 4, 0), BEYOND);
        found(x, "too many of the first", x.copy(1, 0, 0, 0, 4), BEYOND);
        found(x, "too many of the other", x.copy(0, 0, 1, 0, 4), BEYOND);
        found(x, "from -1", x.copy(0, -1, 1, 0, 1), BEYOND);
        found(x, "to -1", x.copy(0, 0, 1, -1, 1), BEYOND);
        found(x, "MAX of them", x.copy(0, 1, 1, 1, MAX), BEYOND);
        found(x, "from MAX", x.copy(0, MAX, 1, 0, MAX), BEYOND);
        found(x, "n -1", x.copy(0, 0, 1, 0, -1), SIZE);
        found(x, "SIZE ahead of NOTHING", x.copy(2, 0, 3, 0, -1), SIZE);
        found(x, "the first is missing", x.copy(2, 0, 0, 0, 1), NOTHING);
        found(x, "the other is missing; ahead of BEYOND", x.copy(0, -1, 2, 0, 1), NOTHING);
        due.is("copy(6, ..)", x.copy(6, 0, 0, 0, -1), BAD);
        due.is("copy(-1, ..)", x.copy(-1, 0, 0, 0, 1), BAD);
        due.is("copy(.., 6, ..)", x.copy(0, 0, 6, 0, 1), BAD);
        due.is("copy(.., -1, ..)", x.copy(0, 0, -1, 0, 1), BAD);
        isRow(x, 0, 1, 2, 3, 4, 4);
        isRow(x, 1, 6, 3, 4);
    }

    private static void mean() {
        due.part("7 mean");
        ShadeNames x = new ShadeNames();
        Runs.fill(x, 0, 7, -2);
        due.is("mean(0)", x.mean(0), 1);
        due.is("asked()", x.asked(), 2);
        Runs.fill(x, 0, -7, 2);
        due.is("mean(0)", x.mean(0), 1);
        due.is("asked() is cut, not lowered", x.asked(), -2);
        Runs.fill(x, 0, MAX, MAX, MAX);
        due.is("mean(0)", x.mean(0), 1);
        due.is("asked()", x.asked(), MAX);
        Runs.fill(x, 0, MIN, MIN);
        due.is("mean(0)", x.mean(0), 1);
        due.is("asked()", x.asked(), MIN);
        x.row(0, 40);
        x.lay(0, 39, 79);
        due.is("of forty", x.mean(0), 1);
        due.is("asked()", x.asked(), 1);
        x.row(0, 0);
        found(x, "mean of none", x.mean(0), NOUGHT);
        found(x, "mean of a missing row", x.mean(1), NOTHING);
        due.is("mean(6)", x.mean(6), BAD);
        due.is("mean(-1)", x.mean(-1), BAD);
        due.is("asked()", x.asked(), 1);
    }

    private static void text() {
        due.part("8 text");
        ShadeNames x = new ShadeNames();
        due.is("text(3, 80)", x.text(3, 80), 80);
        due.is("text(0, 0)", x.text(0, 0), 0);
        due.is("count(7)", x.count(7), 2);
        due.is("a blank", x.put(3, 79, 65), 1032);
        due.is("text(3, 80) anew", x.text(3, 80), 80);
        due.is("a blank", x.put(3, 79, 65), 1032);
        due.is("text(0, 81)", x.text(0, 81), BAD);
        due.is("text(4, 1)", x.text(4, 1), BAD);
        due.is("text(-1, 1)", x.text(-1, 1), BAD);
        due.is("text(4, -1)", x.text(4, -1), BAD);
        found(x, "text(3, -1)", x.text(3, -1), SIZE);
        due.is("as it was", x.put(3, 79, 65), 1065);
    }

    private static void put() {
        due.part("9 put");
        ShadeNames x = new ShadeNames();
        found(x, "put into a missing text", x.put(0, 0, 1), NOTHING);
        x.text(0, 2);
        due.is("put(0, 0, 200)", x.put(0, 0, 200), 1032);
        due.is("200 is -56 as a byte", x.put(0, 0, 300), 944);
        due.is("300 is 44 as a byte", x.put(0, 0, 128), 1044);
        due.is("128 is -128 as a byte", x.put(0, 0, -1), 872);
        due.is("-1", x.put(0, 0, 127), 999);
        due.is("127", x.put(0, 0, 0), 1127);
        due.is("0", x.put(0, 0, 0), 1000);
        due.is("the other byte", x.put(0, 1, 5), 1032);
        found(x, "put(0, 2, 1)", x.put(0, 2, 1), BEYOND);
        found(x, "put(0, -1, 1)", x.put(0, -1, 1), BEYOND);
        found(x, "put(3, -1, 1)", x.put(3, -1, 1), NOTHING);
        due.is("put(4, 0, 1)", x.put(4, 0, 1), BAD);
        due.is("put(-1, 0, 1)", x.put(-1, 0, 1), BAD);
        due.is("asked() is not put()'s", x.asked(), 0);
    }

    private static void isFault(String text, int want) {
        ShadeNames x = new ShadeNames();
        Runs.write(x, 1, text);
        due.is("fault of '" + text + "'", x.fault(1), want);
        due.is("registry of '" + text + "'", x.registry(1) == STATE ? 1 : 0, want == NONE ? 0 : 1);
    }

    private static void fault() {
        due.part("10 fault");
        String[] good = {"n0000000", "  n5559391  ", "w0000000s0000000 l0000000   d0000000p0000000"};
        for (String text : good) {
            isFault(text, NONE);
        }
        isFault("", 0);
        isFault("    ", 4);
        isFault("n", 1);
        isFault(" n000000", 8);
        isFault("x0000000", 0);
        isFault("N0000000", 0);
        isFault("00000000", 0);
        isFault("\tn0000000", 0);
        isFault("n6000000", 1);
        isFault("n0600000", 2);
        isFault("n0060000", 3);
        isFault("n000:000", 4);
        isFault("n0000400", 5);
        isFault("n00000:0", 6);
        isFault("n0000002", 7);
        isFault("n/000000", 1);
        isFault("n000 0000", 4);
        isFault("n0000000n00", 11);
        isFault("n0000000 n00 ", 12);
        isFault("n0000000n6", 9);
        isFault("n0000000x", 8);
        String eight = "n0000000".repeat(8);
        isFault(eight, NONE);
        isFault(eight + "    ", NONE);
        isFault(eight + "n", 64);
        isFault(eight + "  n0000000", 66);
        isFault(eight + " ?", 65);
        isFault("n0000000 ".repeat(8) + " n", 73);
        isFault(" ".repeat(80), 80);
        isFault(" ".repeat(72) + "p0000000", NONE);
        isFault(" ".repeat(73) + "p000000", 80);
        ShadeNames x = new ShadeNames();
        found(x, "fault of a missing text", x.fault(0), NOTHING);
        due.is("fault(4)", x.fault(4), BAD);
        due.is("fault(-1)", x.fault(-1), BAD);
        x.text(0, 8);
        for (int i = 0; i < 8; i++) {
            x.put(0, i, (i == 0 ? 110 : 48) + 256);
        }
        due.is("bytes that were cut to signs", x.fault(0), NONE);
        x.put(0, 0, 110 + 128);
        due.is("a byte below 0", x.fault(0), 0);
    }

    private static void registry() {
        due.part("11 registry");
        ShadeNames x = new ShadeNames();
        found(x, "registry of a missing text", x.registry(0), NOTHING);
        due.is("registry(4)", x.registry(4), BAD);
        due.is("registry(-1)", x.registry(-1), BAD);
        Runs.write(x, 2, " w1232341  p5419290");
        due.is("registry(2)", x.registry(2), 2);
        isName(x, 0, 1, Runs.shade(1, 2, 3), 2, 3, 4, 1);
        isName(x, 1, 5, Runs.shade(5, 4, 1), 9, 2, 9, 0);
        x.year();
        x.keep(0);
        x.keep(1);
        x.keep(2);
        Runs.write(x, 3, "n0000000 n");
        due.is("a fault", x.registry(3), STATE);
        due.is("is no finding", x.findings(NOTHING), 1);
        due.is("names stand", x.count(0), 2);
        due.is("deeds stand", x.count(1), 1);
        due.is("kept ones stand", x.count(8), 3);
        due.is("registry(2) anew", x.registry(2), 2);
        isName(x, 0, 1, Runs.shade(1, 2, 3));
        due.is("no deeds", x.count(1), 0);
        due.is("kept ones go", x.count(8), 0);
        for (int k = 0; k < 3; k++) {
            found(x, "on(" + k + ")", x.on(k), NOTHING);
        }
        Runs.write(x, 0, "n0000000".repeat(8));
        due.is("eight", x.registry(0), 8);
    }

    private static void name() {
        due.part("12 name");
        ShadeNames x = Runs.with("w2221131 n0002000 s0003000 l0003000 d0001000 p2222000 w2222000 n2221000");
        isName(x, 0, 1, 86, 1, 1, 3, 1, 27);
        isName(x, 1, 0, 0, 2, 0, 0, 0, 10);
        isName(x, 2, 2, 0, 3, 0, 0, 0, 10);
        isName(x, 3, 3, 0, 3, 0, 0, 0, 13);
        isName(x, 4, 4, 0, 1, 0, 0, 0, 24);
        isName(x, 5, 5, 86, 2, 0, 0, 0, 7);
        isName(x, 6, 1, 86, 2, 0, 0, 0, 125);
        isName(x, 7, 0, 86, 1, 0, 0, 0, 7);
        due.is("name(8, 0)", x.name(8, 0), BAD);
        due.is("name(-1, 0)", x.name(-1, 0), BAD);
        due.is("name(0, 7)", x.name(0, 7), BAD);
        due.is("name(0, -1)", x.name(0, -1), BAD);
        due.is("asked()", x.asked(), 7);
        x.year();
        isName(x, 0, 1, 50, 1, 1, 3, 1, 27);
        x.year();
        isName(x, 0, 1, 14, 1, 1, 3, 1, 18);
        ShadeNames sharp = Runs.with("s2220000 s2221000 p0000000 n2220000 d2220000 w5559000");
        isName(sharp, 0, 2, 86, 0, 0, 0, 0, 1);
        isName(sharp, 1, 2, 86, 1, 0, 0, 0, 1);
        isName(sharp, 2, 5, 0, 0, 0, 0, 0, 1);
        isName(sharp, 3, 0, 86, 0, 0, 0, 0, 1);
        isName(sharp, 4, 4, 86, 0, 0, 0, 0, 6);
        isName(sharp, 5, 1, 215, 9, 0, 0, 0, 216);
    }

    private static void mark() {
        due.part("13 mark");
        // 000 and 001 are called by those ahead of the deep one, which reaches 000 .. 005
        ShadeNames x = Runs.with("n0000000 w0001100 d0000200 s0003200 p0014300 l0013000 n0050000");
        due.is("wide: called by it", x.mark(1, 1), 7);
        due.is("deep, as a wide one", x.mark(2, 1), 4);
        due.is("sharp: more by a plain name", x.mark(3, 2), 10);
        due.is("deep: others' shades, all six in its row of c", x.mark(2, 4), 6);
        // l001 reaching 3: b + |c - 1| up to 3 with a 0: c 0 to 4, 3 + 4 + 3 + 2 + 1
        due.is("light: of its own a", x.mark(5, 3), 13);
        due.is("poets', as a sharp one", x.mark(4, 2), ball(0, 0, 1, 4) - ball(0, 0, 1, 3));
        // within 3 of 001: the wide one's eight, 002 to 004 of the deep one, 200 and 020 of the sharp one
        due.is("poets': also reached ahead", x.mark(4, 5), 13);
        due.is("mark(0, 0)", x.mark(0, 0), BAD);
        due.is("mark(0, 6)", x.mark(0, 6), BAD);
        due.is("mark(0, -1)", x.mark(0, -1), BAD);
        due.is("mark(7, 1)", x.mark(7, 1), BAD);
        due.is("mark(-1, 1)", x.mark(-1, 1), BAD);
        due.is("no finding yet", x.finding(), 0);
        int[][] is = {{}, {1}, {1, 4}, {2}, {2, 5}, {3}, {}};
        for (int k = 0; k < is.length; k++) {
            for (int kind = 1; kind <= 5; kind++) {
                boolean of = false;
                for (int one : is[k]) {
                    of |= one == kind;
                }
                if (!of) {
                    found(x, "mark(" + k + ", " + kind + ")", x.mark(k, kind), UNLIKE);
                }
            }
        }
        ShadeNames rim = Runs.with("n5001000 p5002000 w0001000");
        due.is("poets', at the rim", rim.mark(1, 5), 4);
        due.is("wide, with 000 its own", rim.mark(2, 1), 8);
        markOfFading();
        ShadeNames first = Runs.with("p0001000 s0000000 d5559000");
        due.is("poets', with none ahead", first.mark(0, 5), 0);
        due.is("poets', of range 1", first.mark(0, 2), 3);
        due.is("sharp, of range 0", first.mark(1, 2), 0);
        due.is("deep, over all", first.mark(2, 4), 2);
        due.is("deep, over all but one", first.mark(2, 1), 215);
    }

    /** What a year takes to another place is told where it is now. */
    private static void markOfFading() {
        ShadeNames x = Runs.with("n0001001 w1001001 s1002001 l1003001 d1000001 p1012001 n2000001");
        // w100 reaches a 0 to 2, b and c 0 to 1: 12, of which 000, 100, 010, 001 are the first one's
        due.is("wide, now", x.mark(1, 1), 8);
        due.is("sharp, now", x.mark(2, 2), ball(1, 0, 0, 2) - ball(1, 0, 0, 1));
        due.is("light, now", x.mark(3, 3), 10);
        due.is("deep, now: w100, s100, l100, p101", x.mark(4, 4), 4);
        // 101 and those 1 apart: 001, 201, 111, 100, 102; l100 reaches 110 and so on, w100 has them but 102
        due.is("poets', now", x.mark(5, 5), 6);
        x.year();
        // w000 has eight; 000, 100, 010, 001 are the first one's
        due.is("wide, then", x.mark(1, 1), 4);
        due.is("sharp, then", x.mark(2, 2), ball(0, 0, 0, 2) - ball(0, 0, 0, 1));
        due.is("light, then", x.mark(3, 3), 10);
        due.is("deep, then: n000, too", x.mark(4, 4), 5);
        due.is("poets', then: 001, 000, 002, 011, 101", x.mark(5, 5), 5);
        x = Runs.with("n1001001 p1002000");
        due.is("poets', the same as the one ahead", x.mark(1, 5), 5);
        x.year();
        due.is("poets', 100 and 000 of the one ahead", x.mark(1, 5), 2);
    }

    private static int ball(int a, int b, int c, int range) {
        int many = 0;
        for (int i = 0; i < 216; i++) {
            int far = Math.abs(i / 36 - a) + Math.abs(i / 6 % 6 - b) + Math.abs(i % 6 - c);
            many += far <= range ? 1 : 0;
        }
        return many;
    }

    private static void dueOfName() {
        due.part("14 due");
        ShadeNames x = Runs.with("n0000030 n5550150");
        due.is("due(0, 9)", x.due(0, 9), 3);
        due.is("due(0, 0)", x.due(0, 0), 9);
        due.is("due(1, 7)", x.due(1, 7), 5);
        isName(x, 0, 0, 0, 0, 0, 0, 0, 1);
        due.is("owes(0, 215)", x.owes(0, 215), 7);
        due.is("due(0, 10)", x.due(0, 10), BAD);
        due.is("due(0, -1)", x.due(0, -1), BAD);
        due.is("due(2, 1)", x.due(2, 1), BAD);
        due.is("due(-1, 1)", x.due(-1, 1), BAD);
        due.is("it is no deed", x.count(1), 0);
        due.is("count(3)", x.count(3), 7);
    }

    private static void say() {
        due.part("15 say");
        ShadeNames x = new ShadeNames();
        due.is("no names", x.say(0, 0, 0, 0), STATE);
        due.is("BAD ahead of STATE", x.say(6, 0, 0, 0), BAD);
        x = Runs.with("n0001091");
        due.is("not free", x.say(0, 1, 0, 0), STATE);
        due.is("say(5, 100, 2, 1)", x.say(5, 100, 2, 1), 1);
        isName(x, 1, 5, 100, 2, 1, 1, 0, 7);
        due.is("a deed", x.count(1), 1);
        due.is("say(4, 215, 9, 3)", x.say(4, 215, 9, 3), 2);
        isName(x, 2, 4, 215, 9, 3, 1, 0, 216);
        due.is("all is taken now", x.say(0, 30, 0, 0), STATE);
        x = Runs.with("n0000000");
        due.is("kind -1", x.say(-1, 5, 0, 0), BAD);
        due.is("kind 6", x.say(6, 5, 0, 0), BAD);
        due.is("shade -1", x.say(0, -1, 0, 0), BAD);
        due.is("shade 216", x.say(0, 216, 0, 0), BAD);
        due.is("range -1", x.say(0, 5, -1, 0), BAD);
        due.is("range 10", x.say(0, 5, 10, 0), BAD);
        due.is("owner -1", x.say(0, 5, 0, -1), BAD);
        due.is("owner 4", x.say(0, 5, 0, 4), BAD);
        for (int k = 1; k < 8; k++) {
            due.is("the next", x.say(k % 4, k, 0, k % 4), k);
        }
        due.is("not free, and eight names", x.say(0, 0, 0, 0), STATE);
        due.is("eight names", x.say(0, 215, 0, 0), FULL);
        x = Runs.with("n0000000");
        for (int i = 0; i < 40; i++) {
            x.year();
        }
        due.is("forty deeds, not free", x.say(0, 0, 0, 0), STATE);
        due.is("forty deeds", x.say(0, 215, 0, 0), FULL);
        due.is("names", x.count(0), 1);
        x = Runs.with("n1000000 n2000001");
        due.is("free a year on, not now", x.say(0, 72, 0, 0), STATE);
        Runs.write(x, 0, "n1000000");
        x.registry(0);
        x.say(0, 72, 0, 0);
        x.year();
        isName(x, 1, 0, 72, 0, 0, 1, 0);
    }

    private static void year() {
        due.part("16 year");
        ShadeNames x = new ShadeNames();
        due.is("no names", x.year(), STATE);
        x = Runs.with("n2220001 n1110001 n5550000 n0340001");
        due.is("year()", x.year(), 2);
        due.is("year()", x.year(), 1);
        due.is("year()", x.year(), 0);
        isName(x, 0, 0, Runs.shade(0, 2, 2));
        isName(x, 1, 0, Runs.shade(0, 1, 1));
        isName(x, 2, 0, 215);
        isName(x, 3, 0, Runs.shade(0, 3, 4));
        due.is("deeds", x.count(1), 3);
        for (int i = 3; i < 40; i++) {
            due.is("year()", x.year(), 0);
        }
        due.is("forty deeds", x.year(), FULL);
        due.is("deeds", x.count(1), 40);
    }

    private static void undo() {
        due.part("17 undo");
        ShadeNames x = Runs.with("n2000031");
        x.year();
        x.say(0, Runs.shade(5, 5, 5), 0, 1);
        x.year();
        x.year();
        x.say(0, Runs.shade(5, 5, 0), 0, 2);
        due.is("undo(6)", x.undo(6), BAD);
        due.is("undo(-1)", x.undo(-1), BAD);
        due.is("undo(MIN)", x.undo(MIN), BAD);
        due.is("undo(MAX)", x.undo(MAX), BAD);
        due.is("from the next one on", x.undo(5), 0);
        due.is("names", x.count(0), 3);
        x.due(0, 7);
        x.due(1, 8);
        due.is("undo(4)", x.undo(4), 1);
        due.is("names", x.count(0), 2);
        due.is("undo(2)", x.undo(2), 2);
        isName(x, 0, 0, 36, 0, 0, 7, 1, 1);
        isName(x, 1, 0, 215, 0, 1, 8, 0, 1);
        due.is("undo(1)", x.undo(1), 1);
        due.is("names", x.count(0), 1);
        due.is("said anew, it has a due of 1", x.say(0, 215, 0, 1), 1);
        isName(x, 1, 0, 215, 0, 1, 1, 0, 1);
        due.is("undo(0)", x.undo(0), 2);
        isName(x, 0, 0, 72, 0, 0, 7, 1, 1);
        due.is("deeds", x.count(1), 0);
        due.is("undo(0) of none", x.undo(0), 0);
        due.is("undo(1) of none", x.undo(1), BAD);
        x.say(0, 215, 0, 1);
        x.undo(0);
        x.year();
        due.is("a year in the place of a saying", x.undo(0), 1);
        isName(x, 0, 0, 72);
        due.is("names", x.count(0), 1);
    }

    private static void keep() {
        due.part("18 keep");
        ShadeNames x = new ShadeNames();
        due.is("no names", x.keep(0), STATE);
        due.is("keep(3)", x.keep(3), BAD);
        due.is("keep(-1)", x.keep(-1), BAD);
        x = Runs.with("n2000031");
        due.is("keep(0)", x.keep(0), 0);
        x.year();
        x.year();
        due.is("keep(2)", x.keep(2), 2);
        due.is("count(8)", x.count(8), 2);
        due.is("on(0)", x.on(0), 0);
        due.is("keep(2) again", x.keep(2), 0);
        due.is("on(2)", x.on(2), 0);
        due.is("count(8)", x.count(8), 2);
    }

    private static void on() {
        due.part("19 on");
        ShadeNames x = Runs.with("n2000031 w5550140");
        found(x, "on(1)", x.on(1), NOTHING);
        due.is("on(3)", x.on(3), BAD);
        due.is("on(-1)", x.on(-1), BAD);
        x.year();
        x.say(0, Runs.shade(0, 5, 5), 1, 2);
        x.keep(1);
        x.due(0, 9);
        x.year();
        x.undo(1);
        x.say(3, Runs.shade(5, 0, 0), 2, 3);
        due.is("on(1)", x.on(1), 2);
        isName(x, 0, 0, 36, 0, 0, 3, 1);
        isName(x, 2, 0, Runs.shade(0, 5, 5), 1, 2, 1, 0);
        due.is("names", x.count(0), 3);
        due.is("deeds", x.count(1), 2);
        due.is("its deeds are undone as they were done", x.undo(0), 2);
        isName(x, 0, 0, 72);
        due.is("names", x.count(0), 2);
        due.is("on(1), kept still", x.on(1), 2);
        due.is("names", x.count(0), 3);
        x.undo(0);
        x.say(0, Runs.shade(0, 5, 5), 1, 2);
        x.year();
        due.is("on(1)", x.on(1), 2);
        due.is("the year was first", x.undo(1), 1);
        due.is("names", x.count(0), 2);
        isName(x, 0, 0, 36, 0, 0, 3, 1);
        x = Runs.with("n5000001 n5550100");
        x.keep(0);
        x.year();
        x.keep(1);
        x.year();
        x.on(0);
        isName(x, 0, 0, 180);
        x.on(1);
        isName(x, 0, 0, 144);
        x.year();
        isName(x, 0, 0, 108, 0, 0, 0, 1);
    }

    private static void apart() {
        due.part("20 apart");
        ShadeNames x = new ShadeNames();
        due.is("apart(0, 215)", x.apart(0, 215), 15);
        due.is("apart(215, 0)", x.apart(215, 0), 15);
        due.is("apart(86, 86)", x.apart(86, 86), 0);
        due.is("005 and 010", x.apart(5, 6), 6);
        due.is("135 and 410", x.apart(Runs.shade(1, 3, 5), Runs.shade(4, 1, 0)), 10);
        due.is("apart(216, 0)", x.apart(216, 0), BAD);
        due.is("apart(0, 216)", x.apart(0, 216), BAD);
        due.is("apart(-1, 0)", x.apart(-1, 0), BAD);
        due.is("apart(0, -1)", x.apart(0, -1), BAD);
    }

    private static void called() {
        due.part("21 called");
        ShadeNames x = Runs.with("n0000000 w0001100 d0000200 n5550000");
        due.is("called(0)", x.called(0), 0);
        due.is("asked()", x.asked(), 7);
        due.is("called(1)", x.called(1), 1);
        due.is("asked()", x.asked(), 6);
        due.is("called(5)", x.called(5), 2);
        due.is("asked()", x.asked(), 4);
        due.is("called(215)", x.called(215), 3);
        due.is("asked()", x.asked(), 8);
        due.is("called(216)", x.called(216), BAD);
        due.is("called(-1)", x.called(-1), BAD);
        due.is("asked()", x.asked(), 8);
        due.is("called(100)", x.called(100), NONE);
        due.is("asked()", x.asked(), 0);
        ShadeNames none = new ShadeNames();
        due.is("called(0), no names", none.called(0), NONE);
        ShadeNames fading = Runs.with("n2000001 n1000100");
        due.is("called(72), now", fading.called(72), 0);
        due.is("asked()", fading.asked(), 1);
        due.is("called(36), now", fading.called(36), 1);
        due.is("asked()", fading.asked(), 2);
        fading.year();
        due.is("called(72), then", fading.called(72), NONE);
        due.is("called(36), then", fading.called(36), 0);
        due.is("asked()", fading.asked(), 3);
    }

    private static void owes() {
        due.part("22 owes");
        ShadeNames x = Runs.with("p0000150 n0001370 n5550190");
        for (int person = 0; person < 4; person++) {
            due.is("a poets' one", x.owes(person, 0), 0);
            due.is("001", x.owes(person, 1), person == 3 ? 0 : 7);
            due.is("555", x.owes(person, 215), person == 1 ? 0 : 9);
            due.is("free", x.owes(person, 100), 0);
        }
        ShadeNames fading = Runs.with("n2000051 n1000170");
        due.is("now", fading.owes(3, 72), 5);
        due.is("now", fading.owes(3, 36), 7);
        fading.year();
        due.is("then", fading.owes(3, 72), 0);
        due.is("then", fading.owes(3, 36), 5);
        due.is("owes(4, 0)", x.owes(4, 0), BAD);
        due.is("owes(-1, 0)", x.owes(-1, 0), BAD);
        due.is("owes(0, 216)", x.owes(0, 216), BAD);
        due.is("owes(0, -1)", x.owes(0, -1), BAD);
    }

    private static void disputed() {
        due.part("23 disputed");
        ShadeNames x = Runs.with("n0001000 n0021000 n0031100 n0130000");
        // 002 and 003 alone are of 0 and of 1: 012, 103 and the like are one's; 013 is two's
        due.is("disputed()", x.disputed(), 2);
        due.is("asked()", x.asked(), 3);
        x = Runs.with("n0001000 n0021000");
        due.is("of one owner", x.disputed(), NONE);
        due.is("asked()", x.asked(), 0);
        x = Runs.with("n5550200 p5551000 s5550200");
        due.is("a poets' one, too", x.disputed(), 215);
        due.is("asked()", x.asked(), 1);
        due.is("no names", new ShadeNames().disputed(), NONE);
        x = Runs.with("n2000051 n1000170 n3000270 n3000101");
        due.is("now", x.disputed(), 108);
        due.is("asked()", x.asked(), 1);
        x.year();
        due.is("then", x.disputed(), 36);
        due.is("asked()", x.asked(), 1);
        x = Runs.with("n0001000");
        x.say(0, 2, 1, 1);
        due.is("with one that is said", x.disputed(), 1);
        x.undo(0);
        due.is("without it", x.disputed(), NONE);
        x = Runs.with("n2000051 n1000170");
        due.is("not yet", x.disputed(), NONE);
        x.year();
        due.is("then", x.disputed(), 36);
    }

    private static void free() {
        due.part("24 free");
        ShadeNames x = new ShadeNames();
        due.is("no names", x.free(), 0);
        due.is("asked()", x.asked(), 216);
        x = Runs.with("d0000000 n0100000");
        due.is("free()", x.free(), 7);
        due.is("asked()", x.asked(), 209);
        x = Runs.with("n1000001");
        due.is("now", x.free(), 0);
        x.year();
        due.is("then", x.free(), 1);
        x = Runs.with("n0009000 w0009000");
        due.is("none", x.free(), NONE);
        due.is("asked()", x.asked(), 0);
    }

    private static void gap() {
        due.part("25 gap");
        ShadeNames x = Runs.with("w0004000");
        // free: one of the parts is 5
        due.is("gap(0, 0)", x.gap(0, 0), 5);
        due.is("asked()", x.asked(), 91);
        // two parts are 5 at least: with one less, another one is 5 still
        due.is("gap(0, 1)", x.gap(0, 1), Runs.shade(0, 5, 5));
        due.is("asked()", x.asked(), 16);
        due.is("gap(2, 1)", x.gap(2, 1), 5);
        due.is("asked()", x.asked(), 91);
        due.is("gap(5, 2)", x.gap(5, 2), Runs.shade(0, 5, 5));
        due.is("asked()", x.asked(), 16);
        due.is("gap(1, 1)", x.gap(1, 1), NONE);
        due.is("asked()", x.asked(), 0);
        // a costs a light one two: all 36 with a 5, and b and c 5 with the five others
        due.is("gap(3, 1)", x.gap(3, 1), Runs.shade(0, 5, 5));
        due.is("asked()", x.asked(), 41);
        due.is("gap(4, 0)", x.gap(4, 0), Runs.shade(0, 5, 0));
        due.is("asked()", x.asked(), 66);
        due.is("gap(6, 0)", x.gap(6, 0), BAD);
        due.is("gap(-1, 0)", x.gap(-1, 0), BAD);
        due.is("gap(0, 10)", x.gap(0, 10), BAD);
        due.is("gap(0, -1)", x.gap(0, -1), BAD);
        due.is("asked()", x.asked(), 66);
        due.is("no names", new ShadeNames().gap(1, 9), 0);
        x = Runs.with("n0000000");
        due.is("clear of 000", x.gap(0, 1), 2);
        due.is("asked()", x.asked(), 212);
        x = Runs.with("n1000001");
        due.is("now", x.gap(0, 0), 0);
        x.year();
        due.is("then", x.gap(0, 0), 1);
    }

    private static void lives() {
        due.part("26 lives");
        ShadeNames x = Runs.with("n0001130 p5551190 n5500270");
        Runs.fill(x, 0, 0, 1, 0, 215, Runs.shade(5, 5, 0), 100);
        due.is("lives(1, 0)", x.lives(1, 0), 27);
        due.is("lives(2, 0)", x.lives(2, 0), 21);
        due.is("lives(0, 0)", x.lives(0, 0), 0);
        ShadeNames fading = Runs.with("n1000051");
        Runs.fill(fading, 0, 36, 0, 0);
        due.is("now", fading.lives(0, 0), 15);
        fading.year();
        due.is("then", fading.lives(0, 0), 30);
        x.row(1, 40);
        due.is("forty places", x.lives(1, 1), 360);
        x.row(1, 0);
        due.is("none", x.lives(1, 1), 0);
        Runs.fill(x, 1, 0, 216);
        found(x, "216", x.lives(1, 1), UNLIKE);
        Runs.fill(x, 1, -1, 0);
        found(x, "-1", x.lives(1, 1), UNLIKE);
        found(x, "missing", x.lives(1, 2), NOTHING);
        due.is("lives(4, 0)", x.lives(4, 0), BAD);
        due.is("lives(-1, 0)", x.lives(-1, 0), BAD);
        due.is("lives(0, 6)", x.lives(0, 6), BAD);
        due.is("lives(0, -1)", x.lives(0, -1), BAD);
    }

    private static void refusedRows(String call, int fewest, int most, RowCall of) {
        ShadeNames x = new ShadeNames();
        due.is(call + " of row -1", of.answer(x, -1, 0), BAD);
        due.is(call + " of row 6", of.answer(x, 6, 0), BAD);
        due.is(call + " by -1", of.answer(x, 0, -1), BAD);
        found(x, call + " of a missing row", of.answer(x, 0, 0), NOTHING);
        x.row(0, most + 1);
        x.lay(0, 0, 216);
        found(x, call + " of too many, SIZE ahead of UNLIKE", of.answer(x, 0, 0), SIZE);
        if (fewest > 0) {
            x.row(0, fewest - 1);
            found(x, call + " of too few", of.answer(x, 0, 0), SIZE);
        }
        x.row(0, most);
        x.lay(0, most - 1, 216);
        found(x, call + " of 216", of.answer(x, 0, 0), UNLIKE);
        x.lay(0, most - 1, -1);
        found(x, call + " of -1", of.answer(x, 0, 0), UNLIKE);
        x.lay(0, most - 1, 215);
        due.holds(call + " of as many as can be", of.answer(x, 0, 0) >= 0);
    }

    /** A call on a row that takes a number beside it. */
    private interface RowCall {
        int answer(ShadeNames x, int r, int v);
    }

    private static void cover() {
        due.part("27 cover");
        refusedRows("cover", 0, 6, (x, r, v) -> x.cover(r, v));
        ShadeNames x = new ShadeNames();
        x.row(0, 0);
        due.is("none", x.cover(0, 9), 0);
        due.is("range 10", x.cover(0, 10), BAD);
        Runs.fill(x, 0, 5);
        due.is("one", x.cover(0, 0), 1);
        Runs.fill(x, 0, 7, 7, 7, 7, 7, 7);
        due.is("one six times", x.cover(0, 0), 1);
        Runs.fill(x, 0, 0, 2, 12, 72, 100, 215);
        due.is("six, range 0", x.cover(0, 0), 6);
        // 000 with 002 by 001, or with 020, or with 200: two of 002, 020, 200 are 4 apart
        due.is("six, range 1", x.cover(0, 1), 5);
        due.is("six, range 2", x.cover(0, 2), 3);
        due.is("six, range 9", x.cover(0, 9), 1);
        // 002 reaches three, 042 the other three; the name between, 022, reaches two alone
        Runs.fill(x, 0, 0, 2, 4, 24, 26, 28);
        due.is("two threes", x.cover(0, 2), 2);
        // every name that reaches most, four of these, leaves two that no one name reaches
        Runs.fill(x, 0, Runs.shade(0, 5, 0), Runs.shade(0, 2, 2), Runs.shade(0, 4, 2),
                Runs.shade(1, 0, 3), Runs.shade(0, 1, 2), Runs.shade(0, 2, 1));
        due.is("the greediest is not in it", x.cover(0, 2), 2);
    }

    private static void best() {
        due.part("28 best");
        refusedRows("best", 0, 6, (x, r, v) -> x.best(r, v));
        ShadeNames x = new ShadeNames();
        x.row(0, 0);
        due.is("none", x.best(0, 9), 0);
        due.is("asked()", x.asked(), 0);
        due.is("range 10", x.best(0, 10), BAD);
        Runs.fill(x, 0, 100, 100, 3, 5);
        due.is("places count each", x.best(0, 0), 100);
        due.is("asked()", x.asked(), 2);
        due.is("the first", x.best(0, 1), 4);
        due.is("asked()", x.asked(), 2);
        Runs.fill(x, 0, 0, 215);
        // 000 and 555 are 15 apart: the first shade that is 6 at least from 000
        due.is("both", x.best(0, 9), Runs.shade(0, 1, 5));
        due.is("asked()", x.asked(), 2);
        due.is("best(0, 10)", x.best(0, 10), BAD);
        due.is("asked()", x.asked(), 2);
    }

    private static void mix() {
        due.part("29 mix");
        refusedRows("mix", 1, 4, (x, r, v) -> x.mix(r, v));
        ShadeNames x = new ShadeNames();
        Runs.fill(x, 0, 0, 4);
        due.is("there", x.mix(0, 4), 0);
        due.is("once", x.mix(0, 2), 1);
        due.is("twice", x.mix(0, 1), 2);
        due.is("twice", x.mix(0, 3), 2);
        due.is("never, beyond", x.mix(0, 5), NONE);
        due.is("never, aside", x.mix(0, 6), NONE);
        due.is("216", x.mix(0, 216), BAD);
        // the mean is cut: 000 and 005 to 002, that with 005 to 003, that with 005 to 004
        Runs.fill(x, 0, 0, 5);
        due.is("cut", x.mix(0, 2), 1);
        due.is("thrice", x.mix(0, 4), 3);
        Runs.fill(x, 0, 77);
        due.is("one", x.mix(0, 77), 0);
        due.is("from one", x.mix(0, 78), NONE);
        // two means, 200 and 022, and the mean of these
        Runs.fill(x, 0, Runs.shade(0, 0, 0), Runs.shade(4, 0, 0), Runs.shade(0, 4, 0), Runs.shade(0, 0, 4));
        due.is("of four", x.mix(0, Runs.shade(1, 1, 1)), 3);
        due.is("not by three", x.mix(0, Runs.shade(3, 1, 1)), NONE);
        Runs.fill(x, 0, Runs.shade(4, 3, 0), Runs.shade(1, 0, 2));
        due.is("only by four", x.mix(0, Runs.shade(1, 0, 0)), NONE);
        due.is("not told by asked()", x.asked(), 0);
    }

    private static void cheap() {
        due.part("30 cheap");
        refusedRows("cheap", 1, 4, (x, r, v) -> x.cheap(r, v));
        ShadeNames x = Runs.with("n0000090 n0041190 n0020290 n0011390 p0030150");
        Runs.fill(x, 0, 4, 0, 4);
        due.is("its own", x.cheap(0, 0), 0);
        due.is("asked()", x.asked(), 0);
        due.is("its own", x.cheap(0, 1), 0);
        due.is("asked()", x.asked(), 4);
        due.is("its own, mixed", x.cheap(0, 2), 1);
        due.is("asked()", x.asked(), 2);
        due.is("its own, mixed twice", x.cheap(0, 3), 2);
        due.is("asked()", x.asked(), 1);
        due.is("person 4", x.cheap(0, 4), BAD);
        due.is("asked()", x.asked(), 1);
        // by one mixing 001 or 010 or 011 are there: the least is told
        x = Runs.with("n0000090 n0020090 n0200090 n5551290");
        Runs.fill(x, 0, 0, 12, 2);
        due.is("free ones", x.cheap(0, 3), 1);
        due.is("asked(): the least", x.asked(), 1);
        x = Runs.with("p0020150 n0001390");
        Runs.fill(x, 0, 0, 2);
        due.is("a poets' one", x.cheap(0, 0), 0);
        due.is("asked()", x.asked(), 2);
        x = Runs.with("w5559190");
        Runs.fill(x, 0, 0, 215);
        x.at(0, 1);
        due.is("none", x.cheap(0, 0), NONE);
        due.is("asked() stands", x.asked(), 215);
        due.is("all its own", x.cheap(0, 1), 0);
        due.is("asked()", x.asked(), 0);
    }

    private static void eyes() {
        due.part("31 eyes");
        ShadeNames x = new ShadeNames();
        due.is("eyes(-1)", x.eyes(-1), BAD);
        due.is("eyes(6)", x.eyes(6), BAD);
        found(x, "missing", x.eyes(0), NOTHING);
        x.row(0, 0);
        due.is("nothing said", x.eyes(0), 65535);
        Runs.fill(x, 0, 0, 3, 1);
        due.is("3 apart, alike", x.eyes(0), 65528);
        Runs.fill(x, 0, 0, 3, 0);
        due.is("3 apart, not alike", x.eyes(0), 7);
        Runs.fill(x, 0, 0, 3, 1, 0, 215, 0);
        due.is("3 .. 14", x.eyes(0), 32760);
        Runs.fill(x, 0, 0, 215, 1);
        due.is("15 alone", x.eyes(0), 32768);
        Runs.fill(x, 0, 9, 9, 0);
        due.is("none", x.eyes(0), 0);
        x.row(0, 4);
        x.lay(0, 0, 216);
        found(x, "four places", x.eyes(0), SIZE);
        x.row(0, 40);
        found(x, "forty places", x.eyes(0), SIZE);
        Runs.fill(x, 0, 0, 0, 2);
        found(x, "2 is neither", x.eyes(0), UNLIKE);
        Runs.fill(x, 0, 0, 0, -1);
        found(x, "-1 is neither", x.eyes(0), UNLIKE);
        Runs.fill(x, 0, 0, 0, 1, 216, 0, 1);
        found(x, "216", x.eyes(0), UNLIKE);
        Runs.fill(x, 0, 0, -1, 1);
        found(x, "-1", x.eyes(0), UNLIKE);
        Runs.fill(x, 0, -1, 0, 1);
        found(x, "-1 first", x.eyes(0), UNLIKE);
        Runs.fill(x, 0, 0, 0, 1, 0, 0, 2);
        found(x, "2 last", x.eyes(0), UNLIKE);
        x.row(0, 39);
        due.is("thirteen threes", x.eyes(0), 0);
    }

    private static void show() {
        due.part("32 show");
        ShadeNames x = new ShadeNames();
        due.is("show(-1)", x.show(-1), BAD);
        due.is("show(6)", x.show(6), BAD);
        found(x, "missing", x.show(0), NOTHING);
        x.row(0, 0);
        due.is("16 eyes", x.show(0), 8);
        Runs.fill(x, 0, 0, 3, 1, 0, 5, 0);
        due.is("3 and 4", x.show(0), 4);
        Runs.fill(x, 0, 0, 3, 0);
        due.is("0, 1, 2: the least", x.show(0), 1);
        Runs.fill(x, 0, 0, 215, 1);
        due.is("one left", x.show(0), NONE);
        Runs.fill(x, 0, 9, 9, 0);
        due.is("none left", x.show(0), NONE);
        x.row(0, 5);
        x.lay(0, 0, 216);
        found(x, "five places", x.show(0), SIZE);
        Runs.fill(x, 0, 0, 216, 1);
        found(x, "216", x.show(0), UNLIKE);
        Runs.fill(x, 0, 0, 0, 2);
        found(x, "2", x.show(0), UNLIKE);
    }

    private static void judged() {
        due.part("33 judged");
        ShadeNames x = new ShadeNames();
        found(x, "missing", x.judged(0, 0, 0), NOTHING);
        Runs.fill(x, 0, 4, 2, 15);
        due.is("all", x.judged(0, 0, 2), 1);
        due.is("asked()", x.asked(), NONE);
        due.is("all but 1", x.judged(0, 0, 4), 1);
        due.is("asked()", x.asked(), 1);
        due.is("2 alone", x.judged(0, 0, 5), 0);
        due.is("asked()", x.asked(), 2);
        Runs.fill(x, 0, 9, 2, 3);
        due.is("0 alone", x.judged(0, 0, 5), 0);
        due.is("asked()", x.asked(), 0);
        due.is("none", x.judged(0, 0, 215), 0);
        due.is("asked()", x.asked(), NONE);
        due.is("judged(6, ..)", x.judged(6, 0, 0), BAD);
        due.is("judged(-1, ..)", x.judged(-1, 0, 0), BAD);
        due.is("judged(0, 216, 0)", x.judged(0, 216, 0), BAD);
        due.is("judged(0, -1, 0)", x.judged(0, -1, 0), BAD);
        due.is("judged(0, 0, 216)", x.judged(0, 0, 216), BAD);
        due.is("judged(0, 0, -1)", x.judged(0, 0, -1), BAD);
        Runs.fill(x, 0, 16, 0, 0);
        found(x, "16", x.judged(0, 0, 0), UNLIKE);
        Runs.fill(x, 0, 0, 0, -1);
        found(x, "-1", x.judged(0, 0, 0), UNLIKE);
        Runs.fill(x, 0, 16, 0);
        found(x, "two", x.judged(0, 0, 0), SIZE);
        x.row(0, 4);
        found(x, "four", x.judged(0, 0, 0), SIZE);
        x.row(0, 0);
        found(x, "none", x.judged(0, 0, 0), SIZE);
    }

    private static void lost() {
        due.part("34 lost");
        ShadeNames x = Runs.with("n3331051 n1331151 s3451290 n0330300 n3330000");
        due.is("the first one's", x.lost(0), NONE);
        due.is("the fading one's", x.lost(1), 2);
        due.is("one aside", x.lost(2), NONE);
        due.is("033 is 1's by 1 apart", x.lost(3), 0);
        due.is("of the same owner", x.lost(4), NONE);
        x.year();
        due.is("a year on", x.lost(1), 1);
        due.is("lost(5)", x.lost(5), BAD);
        due.is("lost(-1)", x.lost(-1), BAD);
        due.is("no names", new ShadeNames().lost(0), BAD);
        ShadeNames five = Runs.with("n5000001 n0000100 n4000101");
        due.is("in five years", five.lost(1), 5);
        due.is("in five years, both at 0", five.lost(2), 5);
        ShadeNames freed = Runs.with("n5110000 n5110101");
        due.is("at once, of another", freed.lost(1), 0);
    }

    private static void moves() {
        due.part("35 moves");
        ShadeNames x = Runs.with("n3000001 n1000100");
        due.is("moves(0)", x.moves(0), 0);
        due.is("300 to nobody, 200 to 0", x.moves(1), 2);
        due.is("300 to nobody, 100 from 1 to 0", x.moves(2), 2);
        due.is("300 to nobody, 000 to 0", x.moves(3), 2);
        due.is("no further", x.moves(6), 2);
        due.is("moves(7)", x.moves(7), BAD);
        due.is("moves(-1)", x.moves(-1), BAD);
        due.is("no deed", x.count(1), 0);
        x.year();
        x.year();
        due.is("100 back to 1, 000 to 0", x.moves(1), 2);
        due.is("no names", new ShadeNames().moves(3), 0);
        due.is("of the same owner", Runs.with("n1000001 n1000000 n0000000").moves(1), 0);
        // 510 and 501 go, 300, 410 and 401 come
        due.is("at the rim", Runs.with("n5001001").moves(1), 5);
    }

    private static void was() {
        due.part("36 was");
        ShadeNames x = new ShadeNames();
        due.is("no years", x.was(100, 0), 1);
        due.is("asked()", x.asked(), 100);
        due.is("one year", x.was(100, 1), 1);
        due.is("asked()", x.asked(), 136);
        due.is("a is 0: from 0, 1, 2", x.was(7, 2), 3);
        due.is("asked()", x.asked(), 7);
        due.is("a is 0, 9 years", x.was(7, 9), 6);
        due.is("asked()", x.asked(), 7);
        due.is("a is 0, 5 years", x.was(0, 5), 6);
        due.is("a is 0, 4 years", x.was(0, 4), 5);
        due.is("a is 5", x.was(215, 1), 0);
        due.is("asked()", x.asked(), NONE);
        due.is("a is 1, 4 years", x.was(36, 4), 1);
        due.is("asked()", x.asked(), 180);
        due.is("was(216, 0)", x.was(216, 0), BAD);
        due.is("was(-1, 0)", x.was(-1, 0), BAD);
        due.is("was(0, 10)", x.was(0, 10), BAD);
        due.is("was(0, -1)", x.was(0, -1), BAD);
        due.is("asked()", x.asked(), 180);
    }

    private static void kinds() {
        due.part("37 kinds");
        ShadeNames x = Runs.with("w0001000 n2220000 n5559000");
        due.is("4: plain", x.kinds(0, 4), 1);
        due.is("8: wide", x.kinds(0, 8), 2);
        due.is("1: sharp, poets'", x.kinds(0, 1), 4 + 32);
        due.is("3: light", x.kinds(0, 3), 8);
        due.is("24: deep", x.kinds(0, 24), 16);
        due.is("0: none", x.kinds(0, 0), 0);
        due.is("range 0", x.kinds(1, 1), 1 + 2 + 4 + 8 + 32);
        due.is("range 0, deep", x.kinds(1, 6), 16);
        due.is("all", x.kinds(2, 216), 2 + 16);
        due.is("kinds(3, 1)", x.kinds(3, 1), BAD);
        due.is("kinds(-1, 1)", x.kinds(-1, 1), BAD);
        due.is("kinds(0, 217)", x.kinds(0, 217), BAD);
        due.is("kinds(0, -1)", x.kinds(0, -1), BAD);
        ShadeNames fading = Runs.with("n1111001");
        due.is("in the midst", fading.kinds(0, 7), 1);
        fading.year();
        due.is("at the rim", fading.kinds(0, 6), 1);
        due.is("at the rim", fading.kinds(0, 7), 0);
    }

    private static void isChance(ShadeNames x, long upper, long lower) {
        due.is("upper()", x.upper(), upper);
        due.is("lower()", x.lower(), lower);
    }

    private static void odds() {
        due.part("38 odds");
        ShadeNames x = Runs.with("d0000000 p0001000 w5559200");
        due.is("odds(0)", x.odds(0), 1);
        // 000 .. 005 by the deep one; the poets' one reaches 000 alone
        isChance(x, 1, 36);
        due.is("odds(2)", x.odds(2), 1);
        isChance(x, 35, 36);
        due.is("odds(1)", x.odds(1), 1);
        isChance(x, 0, 1);
        x.odds(2);
        due.is("odds(4)", x.odds(4), BAD);
        due.is("odds(-1)", x.odds(-1), BAD);
        isChance(x, 35, 36);
        x = Runs.with("w5559200");
        due.is("all", x.odds(2), 1);
        isChance(x, 1, 1);
        x = Runs.with("p5551200");
        due.is("a poets' one is one's, too", x.odds(2), 1);
        isChance(x, 1, 216);
        x = Runs.with("n1001201");
        x.odds(2);
        isChance(x, 5, 216);
        x.year();
        x.odds(2);
        isChance(x, 1, 54);
    }

    private static void mid() {
        due.part("39 mid");
        ShadeNames x = Runs.with("d0000050 p5551190 n5450290");
        due.is("mid(1)", x.mid(1), 1);
        // six times 5 and once 9
        isChance(x, 39 / 3, 216 / 3);
        due.is("mid(0)", x.mid(0), 1);
        isChance(x, 1, 24);
        due.is("mid(2)", x.mid(2), 1);
        isChance(x, 5, 36);
        due.is("mid(4)", x.mid(4), BAD);
        due.is("mid(-1)", x.mid(-1), BAD);
        isChance(x, 5, 36);
        due.is("no names", new ShadeNames().mid(0), 1);
        x = Runs.with("w5559290");
        x.mid(2);
        isChance(x, 0, 1);
        x.mid(0);
        isChance(x, 9, 1);
    }

    private static void lots() {
        due.part("40 lots");
        ShadeNames x = Runs.with("w5559070");
        due.is("each owes 7", x.lots(1, 40, 12345), 280);
        due.is("its own", x.lots(0, 40, 12345), 0);
        due.is("nothing is said", x.count(1), 0);
        // 48271 / 8 is 6033, which is 201 modulo 216; next 48271 * 48271 % 2147483647 is 182605794
        x = Runs.with("n5330030");
        due.is("533 is 201", x.apart(Runs.shade(5, 3, 3), 201), 0);
        due.is("the first by 1", x.lots(1, 1, 1), 3);
        int second = (int) (182605794L / 8 % 216);
        due.is("the first by 48271", x.lots(1, 1, 48271), second == 201 ? 3 : 0);
        x = Runs.with("n5330030 n" + second / 36 + second / 6 % 6 + second % 6 + "0150");
        due.is("two by 1", x.lots(2, 2, 1), 8);
        due.is("one by 48271", x.lots(2, 1, 48271), 5);
        // the greatest seed is -1, so that its first is 2147483647 - 48271
        int last = (int) ((2147483647L - 48271) / 8 % 216);
        x = Runs.with("n" + last / 36 + last / 6 % 6 + last % 6 + "0060");
        due.is("the first by the greatest", x.lots(3, 1, 2147483646), 6);
        due.is("lots(4, ..)", x.lots(4, 1, 1), BAD);
        due.is("lots(-1, ..)", x.lots(-1, 1, 1), BAD);
        due.is("n 0", x.lots(0, 0, 1), BAD);
        due.is("n 41", x.lots(0, 41, 1), BAD);
        due.is("seed 0", x.lots(0, 1, 0), BAD);
        due.is("seed -1", x.lots(0, 1, -1), BAD);
        due.is("seed MAX", x.lots(0, 1, MAX), BAD);
    }

    private static void asked() {
        due.part("41 asked");
        ShadeNames x = Runs.with("n0001050 n0011150 p5550290");
        Runs.fill(x, 0, 3, 4, 5);
        x.at(0, 1);
        due.is("at()", x.asked(), 4);
        // none of these tell
        x.row(1, 2);
        x.copy(0, 0, 1, 0, 2);
        x.tear(1);
        x.text(1, 3);
        x.put(1, 0, 66);
        x.fault(1);
        x.registry(1);
        x.mark(0, 1);
        x.due(0, 6);
        x.say(0, 100, 0, 0);
        x.year();
        x.undo(0);
        x.keep(0);
        x.on(0);
        x.apart(0, 9);
        x.owes(1, 0);
        x.lives(0, 0);
        x.cover(0, 1);
        x.mix(0, 3);
        x.row(2, 3);
        x.eyes(2);
        x.show(2);
        x.lost(0);
        x.moves(1);
        x.kinds(0, 4);
        x.odds(0);
        x.mid(0);
        x.lots(0, 3, 3);
        x.count(0);
        x.findings(1);
        x.digest();
        due.is("others tell nothing", x.asked(), 4);
        x.lay(0, 2, 9);
        due.is("lay()", x.asked(), 5);
        x.mean(0);
        due.is("mean()", x.asked(), 5);
        x.name(2, 4);
        due.is("name()", x.asked(), 9);
        x.called(0);
        due.is("called()", x.asked(), 3);
        x.free();
        due.is("free()", x.asked(), 208);
        // n000 and n001 share 000, 001
        x.disputed();
        due.is("disputed()", x.asked(), 2);
        x.gap(0, 0);
        due.is("gap()", x.asked(), 208);
        Runs.fill(x, 0, 0, 0, 0);
        x.best(0, 0);
        due.is("best()", x.asked(), 3);
        Runs.fill(x, 0, 215);
        x.cheap(0, 0);
        due.is("cheap()", x.asked(), 215);
        x.was(215, 9);
        due.is("was()", x.asked(), NONE);
        Runs.fill(x, 0, 0, 0, 1);
        x.judged(0, 0, 1);
        due.is("judged()", x.asked(), 2);
    }

    private static void upperAndLower() {
        due.part("42 upper, 43 lower");
        ShadeNames x = new ShadeNames();
        isChance(x, 0, 1);
        x = Runs.with("n0001040");
        isChance(x, 0, 1);
        x.odds(0);
        isChance(x, 1, 54);
        x.mid(1);
        isChance(x, 2, 27);
        x.odds(9);
        x.lots(1, 3, 3);
        x.mean(0);
        isChance(x, 2, 27);
        x.odds(3);
        isChance(x, 0, 1);
    }

    private static void count() {
        due.part("44 count");
        ShadeNames x = Runs.with("n0000011 w5550121 s0500230 l0050340 d5500051 p5050160 d5001070");
        x.year();
        x.say(1, Runs.shade(0, 2, 2), 0, 0);
        x.keep(0);
        x.keep(2);
        x.row(0, 0);
        x.row(5, 9);
        x.text(3, 0);
        int[] want = {8, 2, 3, 29, 4, 2, 2, 2, 2};
        for (int what = 0; what < want.length; what++) {
            due.is("count(" + what + ")", x.count(what), want[what]);
        }
        due.is("count(9)", x.count(9), BAD);
        due.is("count(-1)", x.count(-1), BAD);
        due.is("count(MIN)", x.count(MIN), BAD);
    }

    private static void finding() {
        due.part("45 finding");
        ShadeNames x = new ShadeNames();
        due.is("before any", x.finding(), 0);
        x.row(9, 1);
        x.year();
        due.is("others are none", x.finding(), 0);
        x.at(0, 0);
        due.is("NOTHING", x.finding(), NOTHING);
        x.row(0, 0);
        x.at(0, 0);
        due.is("BEYOND", x.finding(), BEYOND);
        x.mean(0);
        due.is("NOUGHT", x.finding(), NOUGHT);
        x.row(0, -1);
        due.is("SIZE", x.finding(), SIZE);
        Runs.fill(x, 0, 216);
        x.lives(0, 0);
        due.is("UNLIKE", x.finding(), UNLIKE);
        x.at(0, 0);
        x.row(9, 1);
        due.is("it stays the latest", x.finding(), UNLIKE);
    }

    private static void findings() {
        due.part("46 findings");
        ShadeNames x = new ShadeNames();
        for (int i = 0; i < 3; i++) {
            x.at(0, 0);
        }
        x.row(0, -1);
        x.row(0, -2);
        x.row(0, 0);
        x.mean(0);
        x.row(0, 1);
        for (int i = 0; i < 4; i++) {
            x.at(0, 1);
        }
        x.lay(0, 0, 999);
        for (int i = 0; i < 5; i++) {
            x.best(0, 0);
        }
        int[] want = {3, 4, 5, 1, 2};
        for (int f = 1; f <= 5; f++) {
            due.is("findings(" + f + ")", x.findings(f), want[f - 1]);
        }
        due.is("findings(0)", x.findings(0), BAD);
        due.is("findings(6)", x.findings(6), BAD);
        due.is("findings(-1)", x.findings(-1), BAD);
        due.is("findings(MAX)", x.findings(MAX), BAD);
    }

    private static long digestOf(long... values) {
        long h = 17;
        for (long v : values) {
            h = 31 * h + v;
        }
        return h;
    }

    private static void digest() {
        due.part("47 digest");
        ShadeNames x = new ShadeNames();
        due.is("of a new object", x.digest(), digestOf(
                0, 0, 0, 0, 0, 0, 0, 0, 0, -1, -1, -1, -1, -1, -1, -1, -1, -1, -1, -1, -1, -1));
        x = Runs.with("d5551241");
        x.year();
        x.keep(1);
        x.year();
        Runs.fill(x, 2, 70000, -5);
        x.row(4, 0);
        x.text(2, 2);
        x.put(2, 1, 255);
        x.at(2, 0);
        x.at(2, 9);
        x.odds(2);
        due.is("of one in use", x.digest(), digestOf(
                1, 2, 1, 4, 1, 0, 2, 2, 1,
                4, Runs.shade(3, 5, 5), 1, 2, 4, 1, 36,
                -1, 1, -1,
                -1, -1, 2, 70000, -5, -1, 0, -1,
                8, 'd', '5', '5', '5', '1', '2', '4', '1', -1, 2, 32, -1, -1));
        due.is("it changes nothing", x.asked(), 70000);
    }
}
