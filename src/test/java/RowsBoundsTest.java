/** Section 1 of the document and promises 1 to 11: each sentence that names an edge of rows, texts, registries. */
public final class RowsBoundsTest {
    private static final int FINDING = -3, STATE = -4, NONE = -9;
    private static final int MIN = Integer.MIN_VALUE, MAX = Integer.MAX_VALUE;

    private static final Due due = new Due("bounds of rows");

    public static void main(String[] args) {
        missingAtFirst();
        rowsOfNoneToForty();
        layingAtTheEnds();
        tearing();
        copyingAtTheEnds();
        copyingWithin();
        meansCut();
        textsOfNoneToEighty();
        bytesCut();
        everySignInEveryPlace();
        oneFigureEach();
        blanksAsManyAsWanted();
        blanksWithin();
        endsThatComeTooEarly();
        theNinth();
        registriesOfOneToEight();
        registriesAnew();
        shadesByTheirParts();
        due.end();
    }

    private static void told(String what, ShadeNames x, int got, int want) {
        due.is(what, got, 1);
        due.is(what + " told by asked()", x.asked(), want);
    }

    private static void isRow(String what, ShadeNames x, int r, int... places) {
        for (int i = 0; i < places.length; i++) {
            told(what + ", place " + i, x, x.at(r, i), places[i]);
        }
        due.is(what + ", no more", x.at(r, places.length), FINDING);
    }

    private static void missingAtFirst() {
        due.part("1 'No ROWS, TEXTS, NAMES'");
        ShadeNames x = new ShadeNames();
        for (int r = 0; r < 6; r++) {
            due.is("row " + r, x.at(r, 0), FINDING);
            due.is("is missing", x.finding(), 1);
        }
        for (int t = 0; t < 4; t++) {
            due.is("text " + t, x.put(t, 0, 1), FINDING);
            due.is("is missing", x.finding(), 1);
        }
        due.is("names", x.count(0), 0);
        due.is("free()", x.free(), 0);
        due.is("all are", x.asked(), 216);
        due.is("disputed()", x.disputed(), NONE);
        due.is("gap(4, 9)", x.gap(4, 9), 0);
        due.is("anywhere", x.asked(), 216);
        due.is("owes(0, 0)", x.owes(0, 0), 0);
        due.is("moves(6)", x.moves(6), 0);
        due.is("lots(0, 40, 1)", x.lots(0, 40, 1), 0);
        due.is("undo(0)", x.undo(0), 0);
    }

    private static void rowsOfNoneToForty() {
        due.part("2 'A ROW is there with n ints 0: n', rows of 0 to 40");
        for (int n = 0; n <= 40; n++) {
            ShadeNames x = new ShadeNames();
            int r = n % 6;
            due.is("row", x.row(r, n), n);
            isRow("row of " + n, x, r, new int[n]);
            due.is("rows", x.count(6), 1);
        }
        ShadeNames x = new ShadeNames();
        for (int r = 0; r < 6; r++) {
            due.is("row " + r, x.row(r, 40), 40);
            due.is("rows", x.count(6), r + 1);
        }
        due.is("one of them anew", x.row(3, 0), 0);
        due.is("rows", x.count(6), 6);
        isRow("it is of none", x, 3);
        x.lay(2, 0, 7);
        x.lay(2, 39, 8);
        x.row(2, 1);
        isRow("a smaller one", x, 2, 0);
        x.row(2, 40);
        isRow("a greater one has no rest of the first", x, 2, new int[40]);
    }

    private static void layingAtTheEnds() {
        due.part("3 'Place i of a ROW is v: what it was', 4 'Place i'");
        ShadeNames x = new ShadeNames();
        x.row(0, 40);
        x.row(1, 40);
        told("lay(0, 0, MIN)", x, x.lay(0, 0, MIN), 0);
        told("lay(0, 39, MAX)", x, x.lay(0, 39, MAX), 0);
        told("at(0, 0)", x, x.at(0, 0), MIN);
        told("at(0, 39)", x, x.at(0, 39), MAX);
        told("lay(0, 0, -1)", x, x.lay(0, 0, -1), MIN);
        told("lay(0, 39, -9)", x, x.lay(0, 39, -9), MAX);
        told("at(0, 0)", x, x.at(0, 0), -1);
        told("at(0, 39)", x, x.at(0, 39), -9);
        isRow("the other", x, 1, new int[40]);
        x.row(2, 1);
        told("the only place", x, x.lay(2, 0, 5), 0);
        told("the only place", x, x.at(2, 0), 5);
    }

    private static void tearing() {
        due.part("5 'A ROW is missing: 1'");
        ShadeNames x = new ShadeNames();
        for (int r = 0; r < 6; r++) {
            x.row(r, r == 0 ? 0 : 40);
        }
        for (int r = 0; r < 6; r++) {
            due.is("tear(" + r + ")", x.tear(r), 1);
            due.is("rows", x.count(6), 5 - r);
            due.is("again", x.tear(r), FINDING);
            due.is("finding()", x.finding(), 1);
        }
        x.row(5, 2);
        isRow("there again, with ints 0", x, 5, 0, 0);
    }

    private static ShadeNames counted(int n) {
        ShadeNames x = new ShadeNames();
        x.row(0, n);
        for (int i = 0; i < n; i++) {
            x.lay(0, i, i + 1);
        }
        return x;
    }

    private static void copyingAtTheEnds() {
        due.part("6 copy, as many as there are");
        ShadeNames x = counted(40);
        x.row(5, 40);
        due.is("all", x.copy(0, 0, 5, 0, 40), 1);
        int[] all = new int[40];
        for (int i = 0; i < 40; i++) {
            all[i] = i + 1;
        }
        isRow("all", x, 5, all);
        x = counted(3);
        Runs.fill(x, 1, 7, 8);
        due.is("the last to the last", x.copy(0, 2, 1, 1, 1), 1);
        isRow("the last", x, 1, 7, 3);
        due.is("the first to the first", x.copy(0, 0, 1, 0, 1), 1);
        isRow("the first", x, 1, 1, 3);
        due.is("none at the ends", x.copy(0, 3, 1, 2, 0), 1);
        due.is("none at the beginnings", x.copy(0, 0, 1, 0, 0), 1);
        x.row(2, 0);
        due.is("none of none", x.copy(2, 0, 2, 0, 0), 1);
        due.is("none of none to another", x.copy(2, 0, 1, 2, 0), 1);
        due.is("none to none", x.copy(1, 2, 2, 0, 0), 1);
        isRow("the first row", x, 0, 1, 2, 3);
        isRow("the other", x, 1, 1, 3);
    }

    private static void copyingWithin() {
        due.part("6 copy, 'perhaps itself, as if taken ahead'");
        for (int from = 0; from < 5; from++) {
            for (int to = 0; to < 5; to++) {
                for (int n = 0; n <= 5 - Math.max(from, to); n++) {
                    ShadeNames x = counted(5);
                    due.is("copy", x.copy(0, from, 0, to, n), 1);
                    int[] want = {1, 2, 3, 4, 5};
                    for (int i = 0; i < n; i++) {
                        want[to + i] = from + i + 1;
                    }
                    isRow(n + " from " + from + " to " + to, x, 0, want);
                }
            }
        }
    }

    private static void isMean(int want, int... places) {
        ShadeNames x = new ShadeNames();
        Runs.fill(x, 5, places);
        told("mean of " + places.length + ", the first " + places[0], x, x.mean(5), want);
    }

    private static int[] forty(int v) {
        int[] places = new int[40];
        for (int i = 0; i < 40; i++) {
            places[i] = v;
        }
        return places;
    }

    private static void meansCut() {
        due.part("7 'The mean of a ROW's ints, cut'");
        isMean(0, 0);
        isMean(-1, -1);
        isMean(MIN, MIN);
        isMean(MAX, MAX);
        isMean(0, 0, 1);
        isMean(0, 0, -1);
        isMean(1, 1, 2);
        isMean(-1, -1, -2);
        isMean(0, MIN, MAX);
        isMean(-715827883, MIN, MAX, MIN);
        isMean(-715827882, MIN, MAX, MIN + 1);
        isMean(MAX - 1, MAX, MAX - 1);
        isMean(MIN + 1, MIN, MIN + 1, MIN + 1);
        due.part("7 mean, forty that wrap around");
        isMean(MAX, forty(MAX));
        isMean(MIN, forty(MIN));
        int[] almost = forty(1);
        almost[39] = 0;
        isMean(0, almost);
        almost[39] = -78;
        isMean(0, almost);
        almost[39] = -79;
        isMean(-1, almost);
        almost[39] = 1;
        isMean(1, almost);
    }

    private static void textsOfNoneToEighty() {
        due.part("8 'A TEXT is there with n blanks: n', texts of 0 to 80");
        for (int n = 0; n <= 80; n++) {
            ShadeNames x = new ShadeNames();
            int t = n % 4;
            due.is("text", x.text(t, n), n);
            for (int i = 0; i < n; i++) {
                due.is("byte " + i + " of " + n, x.put(t, i, 65), 1032);
            }
            due.is("no more than " + n, x.put(t, n, 65), FINDING);
            due.is("is beyond", x.finding(), 2);
            due.is("texts", x.count(7), 1);
            due.is("anew", x.text(t, n), n);
            if (n > 0) {
                due.is("the first of the new", x.put(t, 0, 65), 1032);
                due.is("the last of the new", x.put(t, n - 1, 65), n == 1 ? 1065 : 1032);
            }
        }
        ShadeNames x = new ShadeNames();
        for (int t = 0; t < 4; t++) {
            due.is("text " + t, x.text(t, 80), 80);
            due.is("texts", x.count(7), t + 1);
        }
        x.put(1, 79, 66);
        x.text(1, 1);
        x.text(1, 80);
        due.is("a greater one has no rest of the first", x.put(1, 79, 65), 1032);
        due.is("nor is the other changed", x.put(2, 79, 65), 1032);
    }

    private static void bytesCut() {
        due.part("9 'Byte i of a TEXT is v, cut to a byte: what it was, and 1000 more'");
        ShadeNames x = new ShadeNames();
        x.text(0, 1);
        x.text(3, 80);
        int[] put = {0, 127, 128, 255, 256, 257, -1, -128, -129, -256, 32767, 32768, MIN, MAX, MIN + 5, MAX - 5};
        int[] was = {0, 127, -128, -1, 0, 1, -1, -128, 127, 0, -1, 0, 0, -1, 5, -6};
        for (int i = 0; i < put.length; i++) {
            x.put(0, 0, put[i]);
            due.is(put[i] + " cut", x.put(0, 0, 9), 1000 + was[i]);
        }
        x.put(0, 0, -128);
        due.is("the least answer", x.put(0, 0, 127), 872);
        due.is("the greatest answer", x.put(0, 0, 0), 1127);
        due.is("place 79", x.put(3, 79, 5), 1032);
        due.is("place 79", x.put(3, 79, 6), 1005);
        due.is("place 0", x.put(3, 0, 6), 1032);
    }

    private static void isFault(String what, ShadeNames x, int t, int want) {
        due.is(what + ": fault", x.fault(t), want);
        int names = x.registry(t);
        due.holds(what + ": registry", want == NONE ? names > 0 : names == STATE);
    }

    private static void isFault(String text, int want) {
        ShadeNames x = new ShadeNames();
        Runs.write(x, 2, text);
        isFault("'" + text + "'", x, 2, want);
    }

    private static boolean fits(int place, int sign) {
        switch (place) {
            case 0: return sign > 0 && "nwsldp".indexOf(sign) >= 0;
            case 1: case 2: case 3: return sign >= '0' && sign <= '5';
            case 4: case 6: return sign >= '0' && sign <= '9';
            case 5: return sign >= '0' && sign <= '3';
            default: return sign == '0' || sign == '1';
        }
    }

    /** A blank in the letter's place is one ahead, which is another matter. */
    private static void everySignInEveryPlace() {
        due.part("10 'a letter, a figure that is none such: its place'");
        for (int place = 0; place < 8; place++) {
            for (int sign = -128; sign < 128; sign++) {
                if (place == 0 && sign == 32) {
                    continue;
                }
                ShadeNames x = new ShadeNames();
                Runs.write(x, 0, "n0000000p0000000");
                x.put(0, place, sign);
                isFault("sign " + sign + " at " + place, x, 0, fits(place, sign) ? NONE : place);
                Runs.write(x, 1, "n0000000 p0000000");
                x.put(1, 9 + place, sign);
                isFault("sign " + sign + " at " + place + " of the next", x, 1, fits(place, sign) ? NONE : 9 + place);
            }
        }
    }

    private static void isItem(String item, int... told) {
        ShadeNames x = Runs.with(item);
        for (int what = 0; what < told.length; what++) {
            told(item + ", name(0, " + what + ")", x, x.name(0, what), told[what]);
        }
    }

    private static void oneFigureEach() {
        due.part("11 PARTS 0 .. 5, the RANGE 0 .. 9, the OWNER 0 .. 3, the DUE 0 .. 9, FADES 0, 1");
        isItem("n0000000", 0, 0, 0, 0, 0, 0);
        isItem("w5559391", 1, 215, 9, 3, 9, 1);
        isItem("s5000000", 2, 180, 0, 0, 0, 0);
        isItem("l0500000", 3, 30, 0, 0, 0, 0);
        isItem("d0050000", 4, 5, 0, 0, 0, 0);
        isItem("p0009000", 5, 0, 9, 0, 0, 0);
        isItem("n0000300", 0, 0, 0, 3, 0, 0);
        isItem("n0000090", 0, 0, 0, 0, 9, 0);
        isItem("n0000001", 0, 0, 0, 0, 0, 1);
    }

    private static void blanksAsManyAsWanted() {
        due.part("10 'blanks ahead, between, behind as many as wanted'");
        for (int blanks = 0; blanks <= 64; blanks++) {
            String some = " ".repeat(blanks);
            isFault(some + "n0000000n0000000", NONE);
            isFault("n0000000" + some + "n0000000", NONE);
            isFault("n0000000n0000000" + some, NONE);
        }
        isFault("  n0000000".repeat(8), NONE);
        isFault("n0000000  ".repeat(8), NONE);
        isFault(" n0000000 ".repeat(8), NONE);
        isFault(" ".repeat(16) + "n0000000".repeat(8), NONE);
        isFault("n0000000".repeat(8) + " ".repeat(16), NONE);
        due.part("10 'the TEXT's size, if there are blanks alone'");
        for (int blanks = 0; blanks <= 80; blanks++) {
            isFault(" ".repeat(blanks), blanks);
        }
    }

    private static void blanksWithin() {
        due.part("10 'none within items'");
        for (int place = 1; place < 8; place++) {
            String item = "n000000000".substring(0, place) + " " + "000000000".substring(place);
            isFault(item, place);
            isFault("n0000000" + item, 8 + place);
            isFault("  " + item, 2 + place);
        }
    }

    private static void endsThatComeTooEarly() {
        due.part("10 'the TEXT's size, if its end comes too early'");
        String eight = "n0000000".repeat(8);
        for (int size = 0; size <= 64; size++) {
            isFault(eight.substring(0, size), size > 0 && size % 8 == 0 ? NONE : size);
        }
        for (int size = 1; size < 8; size++) {
            isFault(" ".repeat(80 - size) + eight.substring(0, size), 80);
        }
        isFault(" ".repeat(72) + "n0000000", NONE);
        due.part("10 the first of two faults");
        isFault("n00x00", 3);
        isFault("n0000x", 5);
        isFault("x6", 0);
        isFault("n66", 1);
        isFault("n0000000 n0000000 x", 18);
    }

    private static void theNinth() {
        due.part("10 'a ninth one: its place'");
        String eight = "n0000000".repeat(8);
        for (int blanks = 0; blanks <= 15; blanks++) {
            String ahead = eight + " ".repeat(blanks);
            isFault(ahead + "n", 64 + blanks);
            isFault(ahead + "?", 64 + blanks);
            isFault(ahead + "0", 64 + blanks);
            isFault(ahead + "n0000000".substring(0, Math.min(8, 16 - blanks)), 64 + blanks);
        }
        isFault("n0000000".repeat(9), 64);
        isFault("n0000000".repeat(10), 64);
        isFault(" " + eight + "  n0000000", 67);
        isFault("n0000000".repeat(7) + "n0000002n0000000", 63);
        isFault("n0000000".repeat(7) + " n0000000", NONE);
    }

    private static void registriesOfOneToEight() {
        due.part("11 'A REGISTRY by a TEXT: how many NAMES', 1 to 8, as they come");
        for (int many = 1; many <= 8; many++) {
            StringBuilder text = new StringBuilder();
            for (int k = 0; k < many; k++) {
                text.append(Runs.item("nwsldp".charAt(k % 6), 215 - k, k, k % 4, 9 - k, k % 2));
            }
            ShadeNames x = new ShadeNames();
            int t = many % 4;
            Runs.write(x, t, text.toString());
            due.is("registry of " + many, x.registry(t), many);
            due.is("names", x.count(0), many);
            for (int k = 0; k < many; k++) {
                int[] want = {k % 6, 215 - k, k, k % 4, 9 - k, k % 2};
                for (int what = 0; what < want.length; what++) {
                    told("name " + k + ", " + what, x, x.name(k, what), want[what]);
                }
            }
        }
    }

    private static void registriesAnew() {
        due.part("11 'anew: no DEEDS; kept REGISTRIES go'");
        ShadeNames x = Runs.rich();
        x.keep(1);
        due.is("deeds", x.count(1), 3);
        due.is("kept", x.count(8), 3);
        Runs.write(x, 3, "s1110031");
        due.is("nothing goes by a text alone", x.count(8), 3);
        due.is("by less names than there were", x.registry(3), 1);
        due.is("names", x.count(0), 1);
        due.is("no deeds", x.count(1), 0);
        due.is("none kept", x.count(8), 0);
        due.is("undo(0)", x.undo(0), 0);
        due.is("undo(1)", x.undo(1), -1);
        told("its shade", x, x.name(0, 1), Runs.shade(1, 1, 1));
        for (int i = 0; i < 40; i++) {
            due.is("forty deeds again", x.year(), i == 0 ? 1 : 0);
        }
        due.is("no more", x.year(), -2);
        due.is("the same text once more", x.registry(3), 1);
        told("a is what it was", x, x.name(0, 1), Runs.shade(1, 1, 1));
        due.is("a year again", x.year(), 1);
        due.part("11 a REGISTRY goes not with its TEXT");
        x.text(3, 0);
        due.is("names", x.count(0), 1);
        due.is("deeds", x.count(1), 1);
    }

    private static void shadesByTheirParts() {
        due.part("section 1 'its number is 36 a, 6 b and c together'");
        for (int a = 0; a < 6; a++) {
            for (int b = 0; b < 6; b++) {
                for (int c = 0; c < 6; c++) {
                    ShadeNames x = Runs.with("n" + a + b + c + "0000");
                    told("" + a + b + c, x, x.name(0, 1), 36 * a + 6 * b + c);
                    due.is("from 000", x.apart(0, 36 * a + 6 * b + c), a + b + c);
                    due.is("from 555", x.apart(36 * a + 6 * b + c, 215), 15 - a - b - c);
                }
            }
        }
    }
}
