/** Sections 1 and 2 of the document and promises 12 to 19: edges of names, kinds, deeds, kept registries. */
public final class NamesBoundsTest {
    private static final int BAD = -1, FULL = -2, FINDING = -3, STATE = -4, NONE = -9;

    private static final Due due = new Due("bounds of names");

    public static void main(String[] args) {
        rangesOfEveryKind();
        rangesByHand();
        whatIsToldOfNames();
        marksOfWideOnes();
        marksOfSharpOnes();
        marksOfLightOnes();
        marksOfDeepOnes();
        marksOfPoetsOnes();
        duesFromNoneToNine();
        sayingWhatIsFree();
        sayingWithEveryNumber();
        eightNames();
        fortyDeeds();
        yearsAtNought();
        undoing();
        undoingFortyDeeds();
        duesOfOthersStay();
        keeping();
        goingOn();
        goingOnPastOthers();
        due.end();
    }

    private static void told(String what, ShadeNames x, int got, int want) {
        due.is(what, got, 1);
        due.is(what + " told by asked()", x.asked(), want);
    }

    private static void isName(String what, ShadeNames x, int k, int... want) {
        for (int i = 0; i < want.length; i++) {
            told(what + ": name(" + k + ", " + i + ")", x, x.name(k, i), want[i]);
        }
    }

    /** Each kind, each range, from corners, rims and the midst: just the shades within it are called. */
    private static void rangesOfEveryKind() {
        due.part("section 1 'no farther apart than its RANGE; a SHARP one only those nearer, and its own'");
        int[] own = {0, 215, Runs.shade(5, 0, 5), Runs.shade(0, 2, 5), Runs.shade(2, 3, 2)};
        for (char letter : "nwsldp".toCharArray()) {
            for (int range = 0; range <= 9; range++) {
                for (int shade : own) {
                    ShadeNames x = Runs.with(Runs.item(letter, shade, range, 0, 0, 0));
                    java.util.Set<Integer> want = Model.reachOf(letter, shade / 36, shade / 6 % 6, shade % 6, range);
                    for (int other = 0; other < 216; other++) {
                        due.is(letter + " of " + shade + " by " + range + ", called(" + other + ")",
                                x.called(other), want.contains(other) ? 0 : NONE);
                    }
                    told(letter + " of " + shade + " by " + range, x, x.name(0, 6), want.size());
                }
            }
        }
    }

    private static void isReached(String item, int a, int b, int c, boolean want) {
        ShadeNames x = Runs.with(item);
        due.is(item + " and " + a + b + c, x.called(Runs.shade(a, b, c)), want ? 0 : NONE);
    }

    private static void rangesByHand() {
        due.part("section 1, just the RANGE and one farther");
        isReached("n2223000", 3, 3, 3, true);
        isReached("n2223000", 3, 3, 4, false);
        isReached("n2223000", 1, 1, 1, true);
        isReached("n2220000", 2, 2, 2, true);
        isReached("n2220000", 2, 2, 3, false);
        isReached("w2221000", 3, 1, 3, true);
        isReached("w2221000", 2, 2, 4, false);
        isReached("w2221000", 4, 2, 2, false);
        isReached("w2221000", 2, 0, 2, false);
        isReached("d2221000", 3, 1, 5, true);
        isReached("d2221000", 2, 2, 0, true);
        isReached("d2221000", 4, 2, 2, false);
        isReached("d2221000", 2, 4, 2, false);
        isReached("d2220000", 2, 2, 5, true);
        isReached("d2220000", 2, 3, 2, false);
        isReached("l2222000", 3, 2, 2, true);
        isReached("l2221000", 3, 2, 2, false);
        isReached("l2221000", 1, 2, 2, false);
        isReached("l2222000", 2, 3, 3, true);
        isReached("l2222000", 3, 3, 2, false);
        isReached("l2223000", 1, 2, 3, true);
        isReached("s2223000", 3, 3, 2, true);
        isReached("s2223000", 3, 3, 3, false);
        isReached("s2221000", 2, 2, 2, true);
        isReached("s2221000", 2, 2, 3, false);
        isReached("s2220000", 2, 2, 2, true);
        isReached("s2220000", 2, 2, 3, false);
        isReached("p2222000", 2, 2, 1, true);
        isReached("p2222000", 2, 1, 1, false);
        isReached("p2220000", 2, 2, 2, true);
        isReached("p2220000", 2, 2, 1, false);
    }

    private static void whatIsToldOfNames() {
        due.part("12 name, the least and the greatest of each");
        isName("the least", Runs.with("n0000000"), 0, 0, 0, 0, 0, 0, 0, 1);
        isName("the greatest", Runs.with("p5559391"), 0, 5, 215, 9, 3, 9, 1,
                Model.reachOf('p', 5, 5, 5, 9).size());
        isName("all are reached", Runs.with("d2229000"), 0, 4, 86, 9, 0, 0, 0, 216);
        ShadeNames x = Runs.with("n0000000".repeat(7) + "w5554231");
        isName("the eighth", x, 7, 1, 215, 4, 2, 3, 1, 125);
        due.is("the ninth", x.name(8, 0), BAD);
        for (int k = 0; k < 8; k++) {
            due.is("told is 6 at most", x.name(k, 6), 1);
            due.is("7 is not", x.name(k, 7), BAD);
        }
    }

    private static void marksOfWideOnes() {
        due.part("13 'a WIDE one (DEEP, too) how many SHADES are CALLED by it'");
        due.is("all", Runs.with("w0009000").mark(0, 1), 216);
        due.is("all, behind itself", Runs.with("d0009000 w0009000").mark(0, 1), 216);
        due.is("none, behind one with all", Runs.with("d0009000 w0009000").mark(1, 1), 0);
        due.is("none, a deep one", Runs.with("w0009000 d0009000").mark(1, 1), 0);
        due.is("its own alone", Runs.with("w5550000").mark(0, 1), 1);
        due.is("its own six", Runs.with("d5550000").mark(0, 1), 6);
        due.is("all but one", Runs.with("n0000000 w0009000").mark(1, 1), 215);
        due.is("the eighth", Runs.with("n0000000".repeat(7) + "w0001000").mark(7, 1), 7);
    }

    private static void marksOfSharpOnes() {
        due.part("13 'a SHARP one (POETS', too) how many SHADES a NAME of KIND 0 there would REACH more'");
        for (char letter : "sp".toCharArray()) {
            due.is("range 0", Runs.with(letter + "2220000").mark(0, 2), 0);
            due.is("range 1, in the midst", Runs.with(letter + "2221000").mark(0, 2), 6);
            due.is("range 1, at a corner", Runs.with(letter + "5551000").mark(0, 2), 3);
            due.is("range 2, at a corner", Runs.with(letter + "0002000").mark(0, 2), 6);
            int rim = Model.reachOf('n', 5, 5, 5, 9).size() - Model.reachOf('n', 5, 5, 5, 8).size();
            due.is("range 9", Runs.with(letter + "5559000").mark(0, 2), rim);
            due.is("others are none of it", Runs.with("w0009000 " + letter + "5551000").mark(1, 2), 3);
        }
    }

    private static void marksOfLightOnes() {
        due.part("13 'a LIGHT one how many SHADES it REACHES that have its own a'");
        due.is("range 0", Runs.with("l5550000").mark(0, 3), 1);
        due.is("range 1", Runs.with("l5221000").mark(0, 3), 5);
        due.is("range 9, at a corner", Runs.with("l0009000").mark(0, 3), 35);
        due.is("range 9, in the midst", Runs.with("l3229000").mark(0, 3), 36);
        due.is("called by another, too", Runs.with("w0009000 l5550000").mark(1, 3), 1);
    }

    private static void marksOfDeepOnes() {
        due.part("13 'a DEEP one how many other NAMES' SHADES it REACHES'");
        due.is("alone", Runs.with("d0009000").mark(0, 4), 0);
        due.is("seven others", Runs.with("n0000000n0010000n0020000n5550000n5540000n2220000n3330000d0009000").mark(7, 4), 7);
        due.is("others ahead and behind", Runs.with("n0000000 d0000000 n0050000").mark(1, 4), 2);
        due.is("just beyond", Runs.with("n0100000 d0000000 n1000000").mark(1, 4), 0);
        due.is("of one shade, both", Runs.with("n0010000 d0000000 n0010000").mark(1, 4), 2);
        due.is("of its own shade", Runs.with("d0000000 n0000000").mark(0, 4), 1);
    }

    private static void marksOfPoetsOnes() {
        due.part("13 'a POETS' one how many SHADES it REACHES that a NAME ahead of it REACHES'");
        due.is("the first", Runs.with("p0002000 w0009000").mark(0, 5), 0);
        due.is("behind one with all", Runs.with("w0009000 p0002000").mark(1, 5), 4);
        due.is("behind one aside", Runs.with("n5550000 p0002000").mark(1, 5), 0);
        due.is("its own shade alone", Runs.with("n0000000 p0002000").mark(1, 5), 1);
        due.is("range 0", Runs.with("n0000000 p0000000").mark(1, 5), 1);
        due.is("just not", Runs.with("n0020000 p0002000").mark(1, 5), 0);
        due.is("ahead by two is once", Runs.with("n0000000 n0000000 p0002000 n0010000").mark(2, 5), 1);
        due.is("the eighth", Runs.with("n0010000".repeat(7) + "p0002000").mark(7, 5), 1);
    }

    private static void duesFromNoneToNine() {
        due.part("14 'The DUE of a NAME is v (0 .. 9): what it was'");
        ShadeNames x = Runs.with("n0000000".repeat(7) + "p5550000");
        for (int v = 0; v <= 9; v++) {
            due.is("due(0, " + v + ")", x.due(0, v), v == 0 ? 0 : v - 1);
            due.is("due(7, " + v + ")", x.due(7, v), v == 0 ? 0 : v - 1);
            told("name(0, 4)", x, x.name(0, 4), v);
            told("name(7, 4)", x, x.name(7, 4), v);
            due.is("all dues", x.count(3), 2 * v);
            due.is("owes(3, 0)", x.owes(3, 0), v);
            due.is("a poets' one", x.owes(3, 215), 0);
        }
        due.is("no deeds", x.count(1), 0);
        for (int k = 1; k < 7; k++) {
            x.due(k, 9);
        }
        due.is("the most", x.count(3), 72);
    }

    private static void sayingWhatIsFree() {
        due.part("15 say, 'if its own SHADE is FREE'");
        ShadeNames x = Runs.with("s0002000");
        due.is("reached", x.say(0, 1, 0, 0), STATE);
        due.is("just not reached", x.say(0, 2, 0, 0), 1);
        due.is("its own then", x.say(0, 2, 0, 0), STATE);
        due.is("one that reaches what is others'", x.say(1, 3, 9, 1), 2);
        due.is("behind all others: 000", x.called(0), 0);
        due.is("behind all others: 002", x.called(2), 1);
        due.is("the rest", x.called(215), 2);
        due.is("nothing is free", x.say(0, 215, 0, 0), STATE);
        due.is("undone", x.undo(1), 1);
        due.is("free again", x.say(0, 3, 0, 0), 2);
        x = Runs.with("n1000001");
        due.is("000 is free", x.called(0), NONE);
        due.is("100 is not", x.say(0, 36, 0, 0), STATE);
        x.year();
        due.is("000 is not", x.say(0, 0, 0, 0), STATE);
        due.is("100 is free", x.say(0, 36, 0, 0), 1);
        x = Runs.with("p0000000");
        due.is("a poets' one is not free, too", x.say(0, 0, 0, 1), STATE);
    }

    private static void sayingWithEveryNumber() {
        due.part("15 'its DUE is 1, it does not FADE: its number'");
        for (int kind = 0; kind < 6; kind++) {
            for (int shade : new int[] {1, 215}) {
                for (int range : new int[] {0, 9}) {
                    for (int owner : new int[] {0, 3}) {
                        ShadeNames x = Runs.with("n0000091");
                        due.is("say", x.say(kind, shade, range, owner), 1);
                        int reached = Model.reachOf("nwsldp".charAt(kind), shade / 36, shade / 6 % 6, shade % 6, range).size();
                        isName("said", x, 1, kind, shade, range, owner, 1, 0, reached);
                        due.is("a deed", x.count(1), 1);
                        due.is("a year", x.year(), 0);
                        isName("a year on", x, 1, kind, shade, range, owner, 1, 0, reached);
                    }
                }
            }
        }
        ShadeNames x = Runs.with("n5550000");
        due.is("shade 0", x.say(0, 0, 0, 0), 1);
        isName("shade 0", x, 1, 0, 0, 0, 0, 1, 0, 1);
    }

    private static void eightNames() {
        due.part("15 'FULL: 8 NAMES'");
        for (int first = 1; first <= 8; first++) {
            StringBuilder text = new StringBuilder();
            for (int k = 0; k < first; k++) {
                text.append(Runs.item('n', k, 0, 0, 0, 0));
            }
            ShadeNames x = Runs.with(text.toString());
            for (int k = first; k < 8; k++) {
                due.is("behind " + first, x.say(0, k, 0, 0), k);
            }
            due.is("a ninth", x.say(0, 215, 0, 0), FULL);
            due.is("names", x.count(0), 8);
            due.is("deeds", x.count(1), 8 - first);
            due.is("a year can pass", x.year(), 0);
            if (first < 8) {
                due.is("two deeds undone", x.undo(7 - first), 2);
                due.is("an eighth again", x.say(0, 215, 0, 0), 7);
                due.is("no ninth", x.say(0, 100, 0, 0), FULL);
            }
        }
    }

    private static void fortyDeeds() {
        due.part("15, 16 'FULL: 40 DEEDS'");
        ShadeNames x = Runs.with("n5550000");
        for (int i = 0; i < 39; i++) {
            due.is("a year", x.year(), 0);
        }
        due.is("the fortieth is a saying", x.say(0, 0, 0, 0), 1);
        due.is("deeds", x.count(1), 40);
        due.is("a year more", x.year(), FULL);
        due.is("a saying more", x.say(0, 1, 0, 0), FULL);
        due.is("one undone", x.undo(39), 1);
        due.is("names", x.count(0), 1);
        due.is("the fortieth is a year", x.year(), 0);
        due.is("a saying more", x.say(0, 1, 0, 0), FULL);
        due.is("a due is no deed", x.due(0, 5), 0);
        due.is("keeping is none", x.keep(0), 40);
        due.is("going on is none", x.on(0), 40);
        due.is("full still", x.year(), FULL);
        due.is("deeds", x.count(1), 40);
    }

    private static void yearsAtNought() {
        due.part("16 'each NAME that FADES has a 1 less (not below 0)', how many have another SHADE");
        ShadeNames x = Runs.with("n5010001 n4020001 n3030001 n2040001 n1050001 n0140001 n5110000 w0150001");
        int[] changed = {5, 4, 3, 2, 1, 0, 0};
        for (int year = 0; year < changed.length; year++) {
            due.is("year " + year, x.year(), changed[year]);
            int now = year + 1;
            for (int k = 0; k < 6; k++) {
                int part = Math.max(0, 5 - k - now);
                told("name " + k + " in year " + now, x, x.name(k, 1), 36 * part + (k < 5 ? k + 1 : 10));
            }
            told("one that does not fade", x, x.name(6, 1), Runs.shade(5, 1, 1));
            told("one at 0", x, x.name(7, 1), Runs.shade(0, 1, 5));
        }
        due.is("a year without another shade is a deed", x.count(1), 7);
        due.is("none fades", Runs.with("n5550000").year(), 0);
        due.is("all eight fade", Runs.with("n5550001".repeat(8)).year(), 8);
    }

    private static void undoing() {
        due.part("17 'DEEDS from number n on are undone: how many'");
        for (int n = 0; n <= 4; n++) {
            ShadeNames x = Runs.with("n2000001");
            x.say(0, 215, 0, 1);
            x.year();
            x.say(0, 214, 0, 1);
            x.year();
            due.is("undo(" + n + ")", x.undo(n), 4 - n);
            due.is("deeds", x.count(1), n);
            due.is("names", x.count(0), 1 + (n + 1) / 2);
            told("its shade", x, x.name(0, 1), 36 * (2 - n / 2));
            due.is("the same once more", x.undo(n), 0);
            due.is("one more is none", x.undo(n + 1), BAD);
        }
        ShadeNames x = Runs.with("n0000000");
        due.is("no deeds", x.undo(0), 0);
        due.is("no deed 1", x.undo(1), BAD);
        due.is("no deed -1", x.undo(-1), BAD);
    }

    private static void undoingFortyDeeds() {
        due.part("17 undo, of forty");
        for (int n : new int[] {0, 1, 38, 39, 40}) {
            ShadeNames x = Runs.with("n5550001");
            for (int i = 0; i < 40; i++) {
                x.year();
            }
            due.is("undo(" + n + ")", x.undo(n), 40 - n);
            told("a of " + n + " years", x, x.name(0, 1), Runs.shade(Math.max(0, 5 - n), 5, 5));
            for (int i = n; i < 40; i++) {
                due.holds("a year again", x.year() >= 0);
            }
            due.is("full again", x.year(), FULL);
        }
        ShadeNames x = Runs.with("n5550001");
        for (int i = 0; i < 40; i++) {
            x.year();
        }
        due.is("undo(41)", x.undo(41), BAD);
        due.is("deeds", x.count(1), 40);
    }

    private static void duesOfOthersStay() {
        due.part("17 'NAMES that were SAID go; DUES of others stay'");
        ShadeNames x = Runs.with("n0000030 n0010040");
        x.say(0, 215, 0, 1);
        x.say(0, 214, 0, 1);
        x.due(0, 7);
        x.due(2, 8);
        x.due(3, 9);
        due.is("undo(1)", x.undo(1), 1);
        due.is("names", x.count(0), 3);
        due.is("dues", x.count(3), 7 + 4 + 8);
        due.is("undo(0)", x.undo(0), 1);
        due.is("names", x.count(0), 2);
        due.is("dues", x.count(3), 7 + 4);
        due.is("said again", x.say(0, 215, 0, 1), 2);
        told("its due is 1", x, x.name(2, 4), 1);
        due.is("215 is called by it", x.called(215), 2);
        due.is("214 by none", x.called(214), NONE);
    }

    private static void keeping() {
        due.part("18 'kept in a place (0 .. 2): how many DEEDS'");
        ShadeNames x = Runs.with("n5550001");
        for (int k = 0; k < 3; k++) {
            due.is("keep(" + k + "), no deeds", x.keep(k), 0);
            due.is("kept", x.count(8), k + 1);
        }
        for (int i = 0; i < 40; i++) {
            x.year();
        }
        due.is("keep(2), forty", x.keep(2), 40);
        due.is("kept", x.count(8), 3);
        due.is("on(0)", x.on(0), 0);
        due.is("a year", x.year(), 1);
        due.is("on(2)", x.on(2), 40);
        due.is("full", x.year(), FULL);
        due.is("undo(0)", x.undo(0), 40);
        told("a of the kept one's beginning", x, x.name(0, 1), 215);
        due.is("on(1)", x.on(1), 0);
        due.is("kept still", x.count(8), 3);
        ShadeNames none = new ShadeNames();
        due.is("no names", none.keep(0), STATE);
        due.is("none kept", none.count(8), 0);
        due.is("on(0)", none.on(0), FINDING);
    }

    private static void goingOn() {
        due.part("19 'The REGISTRY is as it was kept'");
        ShadeNames x = Runs.with("n5550031 n0000040");
        x.keep(0);
        x.due(0, 9);
        x.say(4, 100, 1, 2);
        x.keep(1);
        x.due(2, 7);
        x.year();
        x.keep(2);
        due.is("on(0)", x.on(0), 0);
        due.is("names", x.count(0), 2);
        isName("its due", x, 0, 0, 215, 0, 0, 3, 1);
        x.due(1, 0);
        x.year();
        due.is("on(0) once more", x.on(0), 0);
        isName("not changed", x, 0, 0, 215, 0, 0, 3, 1);
        isName("not changed", x, 1, 0, 0, 0, 0, 4, 0);
        due.is("on(1)", x.on(1), 1);
        isName("its due", x, 0, 0, 215, 0, 0, 9, 1);
        isName("what was said", x, 2, 4, 100, 1, 2, 1, 0);
        due.is("no third", x.name(3, 0), BAD);
        due.is("on(2)", x.on(2), 2);
        isName("a year on", x, 0, 0, 179, 0, 0, 9, 1);
        isName("its due then", x, 2, 4, 100, 1, 2, 7, 0);
        due.is("its deeds", x.undo(1), 1);
        isName("undone", x, 0, 0, 215, 0, 0, 9, 1);
        due.is("its deeds", x.undo(0), 1);
        due.is("names", x.count(0), 2);
        due.is("rows are no part of it", x.row(0, 2), 2);
        due.is("on(2)", x.on(2), 2);
        due.is("rows stand", x.count(6), 1);
    }

    /** A place that held another name, another deed, another registry is wholly the new one's. */
    private static void goingOnPastOthers() {
        due.part("15 .. 19, where something else was before");
        ShadeNames x = Runs.with("n0000091 n0010391");
        x.undo(0);
        Runs.write(x, 0, "n0000090");
        x.registry(0);
        due.is("said where one stood that fades", x.say(0, 215, 0, 0), 1);
        isName("it does not fade", x, 1, 0, 215, 0, 0, 1, 0, 1);
        due.is("a year", x.year(), 0);
        x.undo(0);
        x.say(4, 180, 1, 2);
        x.keep(0);
        x.undo(0);
        x.say(5, 30, 3, 1);
        x.keep(1);
        due.is("on(0)", x.on(0), 1);
        isName("the first", x, 1, 4, 180, 1, 2, 1, 0, 24);
        due.is("on(1)", x.on(1), 1);
        isName("the other", x, 1, 5, 30, 3, 1, 1, 0, 10);
        x.undo(0);
        x.year();
        x.keep(0);
        due.is("a year in the place of a saying", x.undo(0), 1);
        due.is("names", x.count(0), 1);
        due.is("on(0)", x.on(0), 1);
        due.is("undone once more", x.undo(0), 1);
        due.is("names", x.count(0), 1);
        x.say(0, 1, 0, 0);
        due.is("a saying in the place of a year", x.undo(0), 1);
        due.is("names", x.count(0), 1);
    }
}
