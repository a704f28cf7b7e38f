/** Promises 41 to 47 and the Terms: edges of what is told, counted, found, and of an object's 512 calls. */
public final class ToldBoundsTest {
    private static final int BAD = -1, FULL = -2, FINDING = -3, STATE = -4, NONE = -9;

    private static final Due due = new Due("bounds of what is told");

    public static void main(String[] args) {
        askedBefore();
        askedByNone();
        askedByRefusals();
        askedByEach();
        chancesBefore();
        chancesByRefusals();
        countsFromNoneToAll();
        countsOfKinds();
        countsByRegistries();
        findingsOfEach();
        findingsByOthers();
        findingsOfManyCalls();
        digestsOfRows();
        digestsOfKept();
        digestsOfNames();
        digestsTellOnly();
        lastOfManyCalls();
        noneIsNoFinding();
        objectsApart();
        due.end();
    }

    private static void askedBefore() {
        due.part("41 '0 before'");
        due.is("asked()", new ShadeNames().asked(), 0);
        ShadeNames x = new ShadeNames();
        x.row(0, 5);
        x.text(0, 5);
        x.at(1, 0);
        x.at(0, 5);
        x.name(0, 0);
        x.mean(1);
        x.called(216);
        due.is("asked(), all refused", x.asked(), 0);
    }

    private static void isAsked(String what, ShadeNames x, int got, int want, int asked) {
        due.is(what, got, want);
        due.is(what + ", asked()", x.asked(), asked);
    }

    private static void askedByNone() {
        due.part("41 'nor NONE, but as told'");
        ShadeNames x = Runs.with("w0009190");
        Runs.fill(x, 0, 33);
        x.at(0, 0);
        isAsked("cheap() tells nothing", x, x.cheap(0, 0), NONE, 33);
        isAsked("mix() tells nothing", x, x.mix(0, 34), NONE, 33);
        isAsked("lost() tells nothing", x, x.lost(0), NONE, 33);
        isAsked("fault() tells nothing", x, x.fault(0), NONE, 33);
        isAsked("disputed() tells 0", x, x.disputed(), NONE, 0);
        x.at(0, 0);
        isAsked("free() tells 0", x, x.free(), NONE, 0);
        x.at(0, 0);
        isAsked("gap() tells 0", x, x.gap(0, 0), NONE, 0);
        x.at(0, 0);
        isAsked("was() tells NONE", x, x.was(215, 1), 0, NONE);
        Runs.fill(x, 1, 0, 0, 0);
        x.at(0, 0);
        isAsked("judged() tells NONE", x, x.judged(1, 7, 7), 1, NONE);
        x = Runs.with("n0000000");
        Runs.fill(x, 0, 33);
        x.at(0, 0);
        isAsked("called() tells 0", x, x.called(1), NONE, 0);
        Runs.fill(x, 1, 0, 215, 1);
        x.at(0, 0);
        isAsked("show() tells nothing", x, x.show(1), NONE, 33);
    }

    private static void askedByRefusals() {
        due.part("41 'that was not refused'");
        ShadeNames x = Runs.rich();
        due.is("told before", x.asked(), 43);
        isAsked("lay, BEYOND", x, x.lay(0, 4, 1), FINDING, 43);
        isAsked("lay, BAD", x, x.lay(6, 0, 1), BAD, 43);
        isAsked("at, BEYOND", x, x.at(3, 0), FINDING, 43);
        isAsked("mean, NOUGHT", x, x.mean(3), FINDING, 43);
        isAsked("name, BAD", x, x.name(7, 0), BAD, 43);
        isAsked("name, BAD", x, x.name(0, 7), BAD, 43);
        isAsked("called, BAD", x, x.called(216), BAD, 43);
        isAsked("gap, BAD", x, x.gap(0, 10), BAD, 43);
        isAsked("best, SIZE", x, x.best(4, 0), FINDING, 43);
        isAsked("best, UNLIKE", x, x.best(5, 0), FINDING, 43);
        isAsked("cheap, SIZE", x, x.cheap(3, 0), FINDING, 43);
        isAsked("cheap, UNLIKE", x, x.cheap(5, 0), FINDING, 43);
        isAsked("judged, SIZE", x, x.judged(0, 0, 0), FINDING, 43);
        isAsked("judged, BAD", x, x.judged(1, 216, 0), BAD, 43);
        isAsked("was, BAD", x, x.was(0, 10), BAD, 43);
    }

    private static void askedByEach() {
        due.part("41 'What the latest ... told'");
        ShadeNames x = Runs.rich();
        isAsked("lay", x, x.lay(0, 2, 5), 1, 215);
        isAsked("at", x, x.at(0, 2), 1, 5);
        isAsked("mean", x, x.mean(5), 1, -7);
        isAsked("name", x, x.name(6, 4), 1, 6);
        isAsked("called", x, x.called(Runs.shade(5, 0, 5)), 6, 64);
        isAsked("best", x, x.best(0, 0), 0, 1);
        isAsked("judged", x, x.judged(1, 0, 3), 1, 0);
        isAsked("was", x, x.was(7, 9), 6, 7);
        isAsked("asked() itself changes nothing", x, x.asked(), 7, 7);
    }

    private static void isChance(String what, ShadeNames x, long upper, long lower) {
        due.is(what + ", upper()", x.upper(), upper);
        due.is(what + ", lower()", x.lower(), lower);
    }

    private static void chancesBefore() {
        due.part("42 '0 before', 43 '1 before'");
        ShadeNames x = new ShadeNames();
        isChance("a new one", x, 0, 1);
        x.odds(4);
        x.mid(-1);
        isChance("refused", x, 0, 1);
        x.odds(0);
        isChance("0 by 1", x, 0, 1);
        isChance("names alone", Runs.with("w0009000"), 0, 1);
    }

    private static void chancesByRefusals() {
        due.part("42, 43 'the chances that were told last'");
        ShadeNames x = Runs.with("d0002050");
        x.odds(0);
        isChance("odds", x, 1, 4);
        x.odds(4);
        x.odds(-1);
        x.mid(4);
        x.mid(-1);
        isChance("refused", x, 1, 4);
        x.mid(1);
        isChance("mid", x, 5, 4);
        x.lots(1, 40, 3);
        x.year();
        x.undo(0);
        Runs.write(x, 0, "n5550000");
        x.registry(0);
        isChance("others tell none", x, 5, 4);
        x.mid(1);
        isChance("mid of none", x, 0, 1);
        x.odds(0);
        isChance("odds of one", x, 1, 216);
    }

    private static void isCount(String what, ShadeNames x, int... want) {
        for (int i = 0; i < want.length; i++) {
            due.is(what + ", count(" + i + ")", x.count(i), want[i]);
        }
    }

    private static void countsFromNoneToAll() {
        due.part("44 count, the least and the most");
        isCount("a new one", new ShadeNames(), 0, 0, 0, 0, 0, 0, 0, 0, 0);
        ShadeNames x = Runs.with("d0000091".repeat(8));
        for (int i = 0; i < 40; i++) {
            x.year();
        }
        for (int i = 0; i < 6; i++) {
            x.row(i, 0);
        }
        for (int i = 0; i < 4; i++) {
            x.text(i, 0);
        }
        for (int i = 0; i < 3; i++) {
            x.keep(i);
        }
        isCount("all there can be", x, 8, 40, 8, 72, 8, 0, 6, 4, 3);
        x = Runs.with("p0000000".repeat(8));
        isCount("poets' ones", x, 8, 0, 0, 0, 0, 8, 0, 1, 0);
    }

    private static void countsOfKinds() {
        due.part("44 '4 WIDE ones (DEEP, too), 5 SHARP ones (POETS', too)'");
        String letters = "nwsldp";
        int[] wide = {0, 1, 0, 0, 1, 0};
        int[] sharp = {0, 0, 1, 0, 0, 1};
        for (int kind = 0; kind < 6; kind++) {
            ShadeNames x = Runs.with(letters.charAt(kind) + "0000000");
            isCount("a " + letters.charAt(kind), x, 1, 0, 0, 0, wide[kind], sharp[kind]);
            x = Runs.with("n5550000");
            x.say(kind, 0, 0, 0);
            isCount("said, a " + letters.charAt(kind), x, 2, 1, 0, 1, wide[kind], sharp[kind]);
            x.undo(0);
            isCount("undone", x, 1, 0, 0, 0, 0, 0);
        }
    }

    private static void countsByRegistries() {
        due.part("44 count, by what goes");
        ShadeNames x = Runs.rich();
        isCount("as it is", x, 7, 3, 3, 8 + 4 + 7 + 9 + 2 + 5 + 6, 2, 3, 6, 4, 2);
        x.tear(0);
        x.undo(1);
        isCount("one row less, two deeds less", x, 6, 1, 3, 8 + 4 + 7 + 9 + 2 + 5, 2, 2, 5, 4, 2);
        x.on(0);
        isCount("as it was kept", x, 7, 2, 3, 3 + 4 + 7 + 9 + 2 + 5 + 1, 2, 3, 5, 4, 2);
        x.registry(0);
        isCount("anew", x, 6, 0, 3, 3 + 4 + 7 + 9 + 2 + 5, 2, 2, 5, 4, 0);
    }

    private static void isFinding(ShadeNames x, String call, int got, int which, int times) {
        due.is(call, got, FINDING);
        due.is(call + ", finding()", x.finding(), which);
        due.is(call + ", findings(" + which + ")", x.findings(which), times);
    }

    private static void findingsOfEach() {
        due.part("45 'The latest FINDING (0 before any)', 46 'How often a FINDING (1 .. 5) was answered'");
        ShadeNames x = new ShadeNames();
        due.is("before any", x.finding(), 0);
        for (int f = 1; f <= 5; f++) {
            due.is("none of " + f, x.findings(f), 0);
        }
        isFinding(x, "NOTHING", x.tear(0), 1, 1);
        x.row(0, 0);
        isFinding(x, "BEYOND", x.at(0, 0), 2, 1);
        isFinding(x, "NOUGHT", x.mean(0), 4, 1);
        isFinding(x, "SIZE", x.row(0, -1), 5, 1);
        Runs.fill(x, 0, 216);
        isFinding(x, "UNLIKE", x.cover(0, 0), 3, 1);
        isFinding(x, "NOTHING", x.fault(0), 1, 2);
        isFinding(x, "NOTHING", x.on(0), 1, 3);
        isFinding(x, "BEYOND", x.lay(0, 1, 0), 2, 2);
        isFinding(x, "UNLIKE", x.lives(0, 0), 3, 2);
        isFinding(x, "SIZE", x.text(0, -1), 5, 2);
        isFinding(x, "SIZE", x.copy(0, 0, 0, 0, -1), 5, 3);
        int[] want = {3, 2, 2, 1, 3};
        for (int f = 1; f <= 5; f++) {
            due.is("all of " + f, x.findings(f), want[f - 1]);
        }
        due.is("0 is none", x.findings(0), BAD);
        due.is("6 is none", x.findings(6), BAD);
        due.is("the latest", x.finding(), 5);
    }

    private static void findingsByOthers() {
        due.part("45, 46 other refusals are no findings, and nothing takes a finding back");
        ShadeNames x = new ShadeNames();
        x.row(0, 0);
        x.mean(0);
        due.is("BAD", x.row(6, 0), BAD);
        due.is("STATE", x.year(), STATE);
        due.is("NONE", x.called(0), NONE);
        due.is("finding()", x.finding(), 4);
        x.row(0, 3);
        x.mean(0);
        x.tear(0);
        x.text(0, 0);
        due.is("STATE by a fault", x.registry(0), STATE);
        due.is("finding()", x.finding(), 4);
        Runs.write(x, 0, "n5550000");
        x.registry(0);
        x.keep(0);
        for (int i = 0; i < 40; i++) {
            x.year();
        }
        due.is("FULL", x.year(), FULL);
        x.undo(0);
        x.on(0);
        due.is("finding()", x.finding(), 4);
        int[] want = {0, 0, 0, 1, 0};
        for (int f = 1; f <= 5; f++) {
            due.is("all of " + f, x.findings(f), want[f - 1]);
        }
    }

    private static void findingsOfManyCalls() {
        due.part("46 findings, of 500 calls");
        ShadeNames x = new ShadeNames();
        for (int i = 0; i < 500; i++) {
            x.at(5, i);
        }
        due.is("findings(1)", x.findings(1), 500);
        due.is("findings(2)", x.findings(2), 0);
    }

    private static long digestOf(long... values) {
        long h = 17;
        for (long v : values) {
            h = 31 * h + v;
        }
        return h;
    }

    private static long[] joined(long[]... parts) {
        int size = 0;
        for (long[] part : parts) {
            size += part.length;
        }
        long[] all = new long[size];
        int filled = 0;
        for (long[] part : parts) {
            System.arraycopy(part, 0, all, filled, part.length);
            filled += part.length;
        }
        return all;
    }

    private static long[] same(int many, long v) {
        long[] values = new long[many];
        java.util.Arrays.fill(values, v);
        return values;
    }

    private static void digestsOfRows() {
        due.part("47 'of each ROW its size (-1: missing) and places, of each TEXT likewise'");
        for (int r = 0; r < 6; r++) {
            for (int n = 0; n <= 40; n += 20) {
                ShadeNames x = new ShadeNames();
                x.row(r, n);
                long[] places = same(n, 0);
                if (n > 0) {
                    x.lay(r, n - 1, Integer.MIN_VALUE);
                    places[n - 1] = Integer.MIN_VALUE;
                }
                due.is("row " + r + " of " + n, x.digest(), digestOf(joined(same(6, 0), new long[] {1, 0, 0},
                        same(3, -1), same(r, -1), new long[] {n}, places, same(5 - r, -1), same(4, -1))));
                x.tear(r);
                due.is("torn", x.digest(), new ShadeNames().digest());
            }
        }
        for (int t = 0; t < 4; t++) {
            for (int n = 0; n <= 80; n += 40) {
                ShadeNames x = new ShadeNames();
                x.text(t, n);
                long[] bytes = same(n, 32);
                if (n > 0) {
                    x.put(t, n - 1, 128);
                    bytes[n - 1] = -128;
                }
                due.is("text " + t + " of " + n, x.digest(), digestOf(joined(same(7, 0), new long[] {1, 0},
                        same(3, -1), same(6, -1), same(t, -1), new long[] {n}, bytes, same(3 - t, -1))));
            }
        }
    }

    private static void digestsOfKept() {
        due.part("47 'of each kept REGISTRY how many DEEDS (-1: missing)'");
        String item = "n0000000";
        long[] text = new long[8];
        for (int i = 0; i < 8; i++) {
            text[i] = item.charAt(i);
        }
        for (int k = 0; k < 3; k++) {
            for (int deeds = 0; deeds <= 40; deeds += 20) {
                ShadeNames x = Runs.with(item);
                for (int i = 0; i < deeds; i++) {
                    x.year();
                }
                x.keep(k);
                x.undo(0);
                due.is("place " + k + ", " + deeds + " deeds", x.digest(), digestOf(joined(
                        new long[] {1, 0, 0, 0, 0, 0, 0, 1, 1}, new long[] {0, 0, 0, 0, 0, 0, 1},
                        same(k, -1), new long[] {deeds}, same(2 - k, -1), same(6, -1), new long[] {8}, text, same(3, -1))));
            }
        }
    }

    private static void digestsOfNames() {
        due.part("47 'of each NAME name() 0 to 6'");
        ShadeNames x = Runs.rich();
        long h = 17;
        for (int what = 0; what <= 8; what++) {
            h = 31 * h + x.count(what);
        }
        for (int k = 0; k < 7; k++) {
            for (int what = 0; what <= 6; what++) {
                x.name(k, what);
                h = 31 * h + x.asked();
            }
        }
        h = 31 * (31 * (31 * h + 2) - 1) + 3;
        int[] sizes = {4, 3, 6, 0, 40, 1};
        for (int r = 0; r < 6; r++) {
            h = 31 * h + sizes[r];
            for (int i = 0; i < sizes[r]; i++) {
                x.at(r, i);
                h = 31 * h + x.asked();
            }
        }
        long digest = x.digest();
        String[] texts = {"n2222031w5551141 s0003270l4003191d1501320p1133050", "", " ".repeat(80), "n000000 "};
        for (String text : texts) {
            h = 31 * h + text.length();
            for (char sign : text.toCharArray()) {
                h = 31 * h + sign;
            }
        }
        due.is("of much", digest, h);
    }

    private static void digestsTellOnly() {
        due.part("47 digest changes nothing, and nothing that only tells changes it");
        ShadeNames x = Runs.rich();
        long before = x.digest();
        due.is("again", x.digest(), before);
        due.is("asked()", x.asked(), 43);
        due.is("finding()", x.finding(), 4);
        x.odds(1);
        x.disputed();
        x.free();
        x.gap(0, 0);
        x.best(0, 3);
        x.cheap(0, 0);
        x.lots(0, 9, 9);
        x.was(0, 9);
        x.moves(6);
        x.at(9, 9);
        x.at(0, 9);
        x.lost(0);
        x.cover(0, 2);
        x.mix(0, 3);
        x.eyes(2);
        x.show(2);
        x.judged(1, 0, 3);
        x.keep(0);
        x.on(0);
        x.keep(2);
        x.copy(0, 0, 0, 0, 4);
        due.holds("by keeping it is another", x.digest() != before);
    }

    /** Of an object's 512 calls the last answers like the first. */
    private static void lastOfManyCalls() {
        due.part("an object is used for at most 512 calls");
        ShadeNames x = Runs.with("n5550031");
        int calls = 10;
        while (calls < 500) {
            x.year();
            x.undo(0);
            x.row(calls % 6, 40);
            x.tear(calls % 6);
            x.text(1 + calls % 3, 80);
            x.keep(calls % 3);
            x.on(calls % 3);
            calls += 7;
        }
        due.is("year()", x.year(), 1);
        due.is("called(179)", x.called(179), 0);
        due.is("asked()", x.asked(), 1);
        due.is("count(0)", x.count(0), 1);
        due.is("count(1)", x.count(1), 1);
        due.is("count(6)", x.count(6), 0);
        due.is("count(7)", x.count(7), 4);
        due.is("count(8)", x.count(8), 3);
    }

    private static void noneIsNoFinding() {
        due.part("NONE -9 is no refusal");
        ShadeNames x = Runs.with("w0009090");
        x.called(0);
        x.disputed();
        x.free();
        x.gap(0, 0);
        x.fault(0);
        x.lost(0);
        Runs.fill(x, 0, 0);
        x.mix(0, 1);
        x.cheap(0, 1);
        Runs.fill(x, 0, 0, 0, 0);
        x.show(0);
        due.is("finding()", x.finding(), 0);
        for (int f = 1; f <= 5; f++) {
            due.is("findings(" + f + ")", x.findings(f), 0);
        }
    }

    private static void objectsApart() {
        due.part("two objects have nothing in common");
        ShadeNames one = Runs.rich();
        ShadeNames other = new ShadeNames();
        isCount("the other", other, 0, 0, 0, 0, 0, 0, 0, 0, 0);
        due.is("asked()", other.asked(), 0);
        due.is("finding()", other.finding(), 0);
        Runs.write(other, 0, "w0009090");
        other.registry(0);
        due.is("the first has its names", one.count(0), 7);
        due.is("the first has its deeds", one.count(1), 3);
    }
}
