/** Sections 2 and 3 of the document and promises 20 to 33: edges of what shades are called, of mixing, of eyes. */
public final class ShadesBoundsTest {
    private static final int NONE = -9;

    private static final Due due = new Due("bounds of shades");

    public static void main(String[] args) {
        apartFromNoneToFifteen();
        calledByTheFirst();
        owedFromNoneToNine();
        disputedByTwo();
        freeFromNoneToAll();
        gapsFromNoneToAll();
        gapsJustWideEnough();
        livesOfNoneToForty();
        coversOfNoneToSix();
        bestOfNoneToSix();
        mixingByNoneToThree();
        mixingCut();
        cheapByNoneToThree();
        cheapByNone();
        eyesFromNoneToFifteen();
        sayingsOfNoneToThirteen();
        sayingsUnlike();
        showFromOneToFifteen();
        judgesJustApart();
        judgesUnlike();
        due.end();
    }

    private static void isAsked(String what, ShadeNames x, int got, int want, int asked) {
        due.is(what, got, want);
        due.is(what + ", asked()", x.asked(), asked);
    }

    private static void isFound(String what, ShadeNames x, int got, int finding) {
        due.is(what, got, -3);
        due.is(what + ", finding()", x.finding(), finding);
    }

    private static ShadeNames row(int... places) {
        ShadeNames x = new ShadeNames();
        Runs.fill(x, 5, places);
        return x;
    }

    private static void apartFromNoneToFifteen() {
        due.part("20 'the differences of their PARTS together'");
        ShadeNames x = new ShadeNames();
        for (int a = 0; a < 216; a += 5) {
            for (int b = 0; b < 216; b += 23) {
                int far = Math.abs(a / 36 - b / 36) + Math.abs(a / 6 % 6 - b / 6 % 6) + Math.abs(a % 6 - b % 6);
                due.is("apart(" + a + ", " + b + ")", x.apart(a, b), far);
            }
        }
        due.is("the most", x.apart(0, 215), 15);
        due.is("the most", x.apart(Runs.shade(5, 0, 5), Runs.shade(0, 5, 0)), 15);
        due.is("none", x.apart(215, 215), 0);
        due.is("from 005 to 010", x.apart(5, 6), 6);
        due.is("from 055 to 100", x.apart(35, 36), 11);
    }

    private static void calledByTheFirst() {
        due.part("21 'CALLED by the first NAME (by number)'; all by bits; 'NONE: it is FREE (asked() 0)'");
        ShadeNames x = Runs.with("n0000000n0010000n0020000n0030000n0040000n0050000n0100000n0000000");
        for (int k = 0; k < 7; k++) {
            isAsked("name " + k, x, x.called(k), k, k == 0 ? 129 : 1 << k);
        }
        isAsked("215", x, x.called(215), NONE, 0);
        x = Runs.with("w0009000".repeat(8));
        isAsked("all eight", x, x.called(0), 0, 255);
        isAsked("all eight", x, x.called(215), 0, 255);
        x = Runs.with("n0000000".repeat(7) + "n5550000");
        isAsked("the eighth alone", x, x.called(215), 7, 128);
        isAsked("the seven others", x, x.called(0), 0, 127);
        isAsked("no names", new ShadeNames(), new ShadeNames().called(215), NONE, 0);
        x.at(0, 0);
        isAsked("asked() 0 by one that is free", x, x.called(100), NONE, 0);
    }

    private static void owedFromNoneToNine() {
        due.part("22 '0: it is its own, FREE, a POETS' one'");
        for (int owner = 0; owner < 4; owner++) {
            for (int dues = 0; dues <= 9; dues++) {
                ShadeNames x = Runs.with("n0000" + owner + dues + "0 p5550" + owner + dues + "0");
                for (int person = 0; person < 4; person++) {
                    due.is("owes(" + person + ", 0)", x.owes(person, 0), person == owner ? 0 : dues);
                    due.is("owes(" + person + ", 215), a poets' one", x.owes(person, 215), 0);
                    due.is("owes(" + person + ", 100), free", x.owes(person, 100), 0);
                }
            }
        }
        due.part("22 by the first NAME alone");
        ShadeNames x = Runs.with("p0000050 n0000190 n5550090 p5550150 n5000130 n5000290");
        for (int person = 0; person < 4; person++) {
            due.is("a poets' one is ahead", x.owes(person, 0), 0);
            due.is("a poets' one is behind", x.owes(person, 215), person == 0 ? 0 : 9);
            due.is("the greater due is behind", x.owes(person, 180), person == 1 ? 0 : 3);
        }
    }

    private static void disputedByTwo() {
        due.part("23 'if NAMES of two OWNERS or more REACH it'; 'NONE: none is (asked() 0)'");
        ShadeNames x = Runs.with("w0009000 n0000100");
        isAsked("the first shade alone", x, x.disputed(), 0, 1);
        x = Runs.with("w0009000 n5550100");
        isAsked("the last shade alone", x, x.disputed(), 215, 1);
        x = Runs.with("w0009000 d5559300");
        isAsked("all", x, x.disputed(), 0, 216);
        x = Runs.with("w0009000w0009100w0009200w0009300");
        isAsked("all, of four", x, x.disputed(), 0, 216);
        x = Runs.with("w0009200".repeat(8));
        isAsked("of one owner, by eight", x, x.disputed(), NONE, 0);
        x = Runs.with("n5550200".repeat(7) + "n5550100");
        isAsked("the eighth is another's", x, x.disputed(), 215, 1);
        x = Runs.with("n0001000 n0030100");
        isAsked("just not", x, x.disputed(), NONE, 0);
        x = Runs.with("n0001000 n0021100");
        isAsked("just so", x, x.disputed(), 1, 1);
        x = Runs.with("n0000000");
        x.free();
        isAsked("one name", x, x.disputed(), NONE, 0);
        x = new ShadeNames();
        x.free();
        isAsked("no names", x, x.disputed(), NONE, 0);
    }

    private static void freeFromNoneToAll() {
        due.part("24 'The first FREE SHADE; how many'; 'NONE: none is (asked() 0)'");
        ShadeNames x = new ShadeNames();
        isAsked("no names", x, x.free(), 0, 216);
        x = Runs.with("n0000000");
        isAsked("all but the first", x, x.free(), 1, 215);
        x = Runs.with("n5550000");
        isAsked("all but the last", x, x.free(), 0, 215);
        // left are those with a or b of 0 and another part of 5
        x = Runs.with("w0004000 d5554000");
        isAsked("few", x, x.free(), 5, 21);
        x = Runs.with("w0009000");
        isAsked("none", x, x.free(), NONE, 0);
        // within 9 of 222 are all but 555, which is nine apart from it, too: a sharp one leaves it
        x = Runs.with("n2229000");
        isAsked("none, by nine", x, x.free(), NONE, 0);
        x = Runs.with("s2229000");
        isAsked("the last alone", x, x.free(), 215, 1);
        x = Runs.with("p3339000");
        isAsked("the first alone", x, x.free(), 0, 1);
    }

    private static void gapsFromNoneToAll() {
        due.part("25 'would REACH FREE ones alone'; 'NONE: none (asked() 0)'");
        for (int kind = 0; kind < 6; kind++) {
            for (int range = 0; range <= 9; range++) {
                ShadeNames x = new ShadeNames();
                isAsked("no names", x, x.gap(kind, range), 0, 216);
                x = Runs.with("w0009000");
                isAsked("none is free", x, x.gap(kind, range), NONE, 0);
            }
        }
        ShadeNames x = Runs.with("s2229000");
        for (int kind = 0; kind < 6; kind++) {
            isAsked("555 alone, kind " + kind + ", range 0", x, x.gap(kind, 0), kind == 4 ? NONE : 215, kind == 4 ? 0 : 1);
            boolean sharp = kind == 2 || kind == 5;
            isAsked("555 alone, kind " + kind + ", range 1", x, x.gap(kind, 1), sharp ? 215 : NONE, sharp ? 1 : 0);
            isAsked("555 alone, kind " + kind + ", range 2", x, x.gap(kind, 2), NONE, 0);
        }
    }

    /** Behind a name for 000 alone: the first shade that is just far enough from it. */
    private static void gapsJustWideEnough() {
        due.part("25 gap, just wide enough");
        ShadeNames x = Runs.with("n0000000");
        for (int kind = 0; kind < 6; kind++) {
            for (int range = 0; range <= 9; range++) {
                int first = NONE;
                int many = 0;
                for (int shade = 0; shade < 216; shade++) {
                    boolean clear = !Model.reachOf("nwsldp".charAt(kind), shade / 36, shade / 6 % 6, shade % 6, range).contains(0);
                    many += clear ? 1 : 0;
                    first = clear && first == NONE ? shade : first;
                }
                isAsked("kind " + kind + ", range " + range, x, x.gap(kind, range), first, many);
            }
        }
        isAsked("by hand: n, 4", x, x.gap(0, 4), 5, 181);
        isAsked("by hand: w, 4", x, x.gap(1, 4), 5, 91);
        isAsked("by hand: w, 5", x, x.gap(1, 5), NONE, 0);
        isAsked("by hand: d, 4", x, x.gap(4, 4), 30, 66);
        isAsked("by hand: s, 1", x, x.gap(2, 1), 1, 215);
        isAsked("by hand: p, 2", x, x.gap(5, 2), 2, 212);
        isAsked("by hand: l, 1", x, x.gap(3, 1), 2, 213);
    }

    private static void livesOfNoneToForty() {
        due.part("26 'each of the other three', 'a ROW (0 to 40; each place)'");
        ShadeNames x = Runs.with("n0000290 p5550290 n0010200 n0020350");
        x.row(0, 40);
        due.is("forty times 9 by three", x.lives(2, 0), 1080);
        for (int person : new int[] {0, 1, 3}) {
            due.is("another's", x.lives(person, 0), 0);
        }
        x.row(0, 0);
        due.is("of none", x.lives(2, 0), 0);
        Runs.fill(x, 0, 0);
        due.is("of one", x.lives(2, 0), 27);
        Runs.fill(x, 0, 215);
        due.is("a poets' one", x.lives(2, 0), 0);
        Runs.fill(x, 0, 1);
        due.is("a due of 0", x.lives(2, 0), 0);
        Runs.fill(x, 0, 100);
        due.is("free", x.lives(2, 0), 0);
        Runs.fill(x, 0, 2, 0, 2, 215, 2);
        due.is("each place", x.lives(3, 0), 45);
        due.is("each place", x.lives(2, 0), 27);
        x.row(0, 40);
        x.lay(0, 39, 215);
        due.is("215 in the last place", x.lives(2, 0), 39 * 27);
        x.lay(0, 39, 216);
        isFound("216 in the last place", x, x.lives(2, 0), 3);
        x.lay(0, 39, 0);
        x.lay(0, 0, -1);
        isFound("-1 in the first place", x, x.lives(2, 0), 3);
        isFound("whosoever asks", x, x.lives(0, 0), 3);
    }

    private static void isCover(int want, int range, int... places) {
        due.is("cover of " + places.length + " by " + range, row(places).cover(5, range), want);
    }

    private static void coversOfNoneToSix() {
        due.part("27 'a ROW (0 to 6): how many'");
        for (int range = 0; range <= 9; range++) {
            isCover(0, range);
            isCover(1, range, 215);
            isCover(1, range, 0, 0, 0, 0, 0, 0);
        }
        for (int many = 1; many <= 6; many++) {
            int[] apart = new int[many];
            for (int i = 0; i < many; i++) {
                apart[i] = i;
            }
            isCover(many, 0, apart);
            isCover((many + 2) / 3, 1, apart);
            isCover((many + 4) / 5, 2, apart);
            isCover(1, 3, apart);
        }
        due.part("27 cover, just so far and one farther");
        isCover(1, 1, 0, 2);
        isCover(2, 1, 0, 3);
        isCover(2, 7, 0, 215);
        isCover(1, 8, 0, 215);
        // six of the eight corners, which are 5 apart along a side
        int[] corners = {0, 5, 30, 35, 180, 185};
        isCover(6, 2, corners);
        isCover(3, 3, corners);
        isCover(1, 9, corners);
        isCover(2, 1, 0, 2, 2, 0, 5, 5);
        due.part("27 cover, nothing is left of the one ahead");
        ShadeNames x = row(0, 1, 2, 3, 4, 5);
        due.is("by 9", x.cover(5, 9), 1);
        due.is("by 0", x.cover(5, 0), 6);
        Runs.fill(x, 5, 0, 215);
        due.is("two by 0", x.cover(5, 0), 2);
        due.is("two by 9", x.cover(5, 9), 1);
        x.row(5, 0);
        due.is("none", x.cover(5, 9), 0);
    }

    private static void isBest(int shade, int many, int range, int... places) {
        ShadeNames x = row(places);
        isAsked("best of " + places.length + " by " + range, x, x.best(5, range), shade, many);
    }

    private static void bestOfNoneToSix() {
        due.part("28 'The SHADE (the first) at which one such NAME REACHES most of them; how many places'");
        for (int range = 0; range <= 9; range++) {
            isBest(0, 0, range);
        }
        isBest(215, 1, 0, 215);
        isBest(0, 1, 0, 0);
        isBest(215, 6, 0, 215, 215, 215, 215, 215, 215);
        isBest(0, 1, 0, 5, 4, 3, 2, 1, 0);
        isBest(1, 2, 0, 0, 1, 2, 1);
        isBest(215, 2, 0, 0, 215, 1, 215);
        isBest(1, 2, 1, 0, 2);
        isBest(0, 1, 1, 0, 3);
        isBest(0, 1, 7, 0, 215);
        isBest(Runs.shade(0, 2, 5), 2, 8, 0, 215);
        isBest(Runs.shade(0, 1, 5), 2, 9, 0, 215);
        isBest(2, 6, 3, 0, 1, 2, 3, 4, 5);
        isBest(2, 5, 2, 0, 1, 2, 3, 4, 5);
    }

    private static void isMix(int want, int shade, int... places) {
        due.is("mix to " + shade + " from " + places.length, row(places).mix(5, shade), want);
    }

    private static void mixingByNoneToThree() {
        due.part("29 'The fewest times (0 .. 3)', 'a ROW (1 to 4)', 'NONE: not by 3'");
        isMix(0, 215, 215);
        isMix(0, 0, 0);
        isMix(NONE, 0, 215);
        isMix(NONE, 214, 215);
        isMix(0, 4, 1, 2, 3, 4);
        isMix(0, 1, 1, 2, 3, 4);
        isMix(NONE, 0, 1, 2, 3, 4);
        isMix(NONE, 5, 1, 2, 3, 4);
        isMix(NONE, 7, 7 + 36, 7 + 36, 7 + 36, 7 + 36);
        due.part("29 'what was MIXED being there, too'");
        isMix(1, 2, 0, 4);
        isMix(2, 1, 0, 4);
        isMix(2, 3, 0, 4);
        isMix(1, 2, 0, 5);
        isMix(2, 1, 0, 5);
        isMix(2, 3, 0, 5);
        isMix(3, 4, 0, 5);
        isMix(NONE, 0, 5, 5);
        // 430 and 102 to 211, that and 102 to 101, that and 102 to 101; 100 needs a fourth
        isMix(NONE, Runs.shade(1, 0, 0), Runs.shade(4, 3, 0), Runs.shade(1, 0, 2));
        // the two last are mixed alone
        isMix(1, 190, 0, 1, 185, 195);
        due.part("29 mixing of what was mixed with what was mixed");
        // 200 and 022, of the first two and the last two: then 111, to which nothing of the row comes
        isMix(3, Runs.shade(1, 1, 1), Runs.shade(0, 0, 0), Runs.shade(4, 0, 0), Runs.shade(0, 4, 0), Runs.shade(0, 0, 4));
    }

    private static void mixingCut() {
        due.part("section 2 'the means of theirs, cut'");
        for (int one = 0; one < 6; one++) {
            for (int other = 0; other < 6; other++) {
                int mean = (one + other) / 2;
                boolean there = mean == one || mean == other;
                isMix(there ? 0 : 1, mean, one, other);
                isMix(there ? 0 : 1, 6 * mean, 6 * one, 6 * other);
                isMix(there ? 0 : 1, 36 * mean, 36 * one, 36 * other);
            }
        }
        isMix(1, Runs.shade(2, 2, 2), 0, 215);
        isMix(NONE, Runs.shade(3, 2, 2), 0, 215);
        isMix(1, Runs.shade(2, 0, 4), Runs.shade(5, 0, 4), Runs.shade(0, 1, 5));
    }

    private static void cheapByNoneToThree() {
        due.part("30 'so that one is there that a PERSON OWES nothing for; the least such by as few'");
        // 000 to 005 are one's each but 003 and 004; all else is person 0's
        ShadeNames x = Runs.with("n0040390 n0030290 n0020190 d2229090");
        Runs.fill(x, 5, 0, 5);
        isAsked("by none, both its own: the least", x, x.cheap(5, 0), 0, 0);
        isAsked("by one", x, x.cheap(5, 1), 1, 2);
        isAsked("by two", x, x.cheap(5, 2), 2, 3);
        isAsked("by three", x, x.cheap(5, 3), 3, 4);
        Runs.fill(x, 5, 5, 1, 3, 0);
        isAsked("by none, the last place", x, x.cheap(5, 0), 0, 0);
        isAsked("by none, the third place", x, x.cheap(5, 2), 0, 3);
        Runs.fill(x, 5, 215);
        isAsked("one alone", x, x.cheap(5, 0), 0, 215);
        due.part("30 it is its own, FREE, a POETS' one, a DUE of 0");
        x = Runs.with("n0000090 p0010090 n0020000 n0050190 n0040090");
        Runs.fill(x, 5, 0, 1);
        isAsked("a poets' one", x, x.cheap(5, 3), 0, 1);
        Runs.fill(x, 5, 0, 2);
        isAsked("a due of 0", x, x.cheap(5, 3), 0, 2);
        Runs.fill(x, 5, 0, 3);
        isAsked("free", x, x.cheap(5, 3), 0, 3);
        Runs.fill(x, 5, 0, 5);
        isAsked("its own", x, x.cheap(5, 1), 0, 5);
        Runs.fill(x, 5, 4, 5);
        isAsked("its own, the least of both", x, x.cheap(5, 0), 0, 4);
        x = new ShadeNames();
        Runs.fill(x, 5, 215, 214, 100, 101);
        isAsked("no names: the least", x, x.cheap(5, 0), 0, 100);
    }

    private static void cheapByNone() {
        due.part("30 'NONE' tells nothing");
        ShadeNames x = Runs.with("n0030290 d2229090");
        Runs.fill(x, 5, 0, 2);
        x.at(5, 1);
        isAsked("not by three", x, x.cheap(5, 2), NONE, 2);
        isAsked("nor for another", x, x.cheap(5, 1), NONE, 2);
        Runs.fill(x, 5, 215);
        x.at(5, 0);
        isAsked("nothing to mix", x, x.cheap(5, 3), NONE, 215);
        due.is("no finding", x.finding(), 0);
    }

    private static void isEyes(int want, int show, int... places) {
        ShadeNames x = row(places);
        due.is("eyes of " + places.length, x.eyes(5), want);
        due.is("show of " + places.length, x.show(5), show);
    }

    private static int shadeFar(int far) {
        return Runs.shade(Math.min(5, far), Math.max(0, Math.min(5, far - 5)), Math.max(0, far - 10));
    }

    private static void eyesFromNoneToFifteen() {
        due.part("31 'EYES (bits 0 .. 15)', section 3 'no farther apart than that'");
        for (int far = 0; far <= 15; far++) {
            ShadeNames x = row(0, shadeFar(far), 1);
            due.is(far + " apart, alike", x.eyes(5), 65535 >> far << far);
            x = row(shadeFar(far), 0, 0);
            due.is(far + " apart, not alike", x.eyes(5), (1 << far) - 1);
            if (far < 15) {
                x = row(0, shadeFar(far), 1, 0, shadeFar(far + 1), 0);
                due.is("just " + far, x.eyes(5), 1 << far);
                x = row(0, shadeFar(far + 1), 1, 0, shadeFar(far), 0);
                due.is("none, by two that can't be", x.eyes(5), 0);
            }
        }
    }

    private static void sayingsOfNoneToThirteen() {
        due.part("31 'a ROW of threes', 0 to 39 places");
        for (int many = 0; many <= 40; many++) {
            int[] places = new int[many];
            for (int i = 0; i + 2 < many; i += 3) {
                places[i + 1] = 3;
                places[i + 2] = 1;
            }
            ShadeNames x = row(places);
            if (many % 3 != 0) {
                isFound("eyes of " + many, x, x.eyes(5), 5);
                isFound("show of " + many, x, x.show(5), 5);
            } else {
                due.is("eyes of " + many, x.eyes(5), many == 0 ? 65535 : 65528);
                due.is("show of " + many, x.show(5), many == 0 ? 8 : 9);
            }
        }
        int[] last = new int[39];
        for (int i = 0; i < 39; i += 3) {
            last[i + 2] = 1;
        }
        last[37] = 215;
        due.is("the thirteenth counts", row(last).eyes(5), 32768);
        last[38] = 0;
        due.is("the thirteenth counts", row(last).eyes(5), 32767);
    }

    private static void sayingsUnlike() {
        due.part("31, 32 'UNLIKE': two SHADES, whether they are alike: 1, 0");
        for (int three = 0; three < 13; three += 12) {
            for (int place = 0; place < 3; place++) {
                int[] wrong = place == 2 ? new int[] {-1, 2, 215} : new int[] {-1, 216, 1000};
                int most = place == 2 ? 1 : 215;
                int[] places = new int[39];
                places[3 * three + place] = most;
                due.is(most + " in place " + (3 * three + place), row(places).eyes(5) >= 0 ? 1 : 0, 1);
                for (int v : wrong) {
                    places[3 * three + place] = v;
                    ShadeNames x = row(places);
                    isFound("eyes, " + v + " in place " + (3 * three + place), x, x.eyes(5), 3);
                    isFound("show, " + v + " in place " + (3 * three + place), x, x.show(5), 3);
                }
            }
        }
    }

    private static void showFromOneToFifteen() {
        due.part("32 'NONE: fewer than two EYES are left'; 'the least such'");
        isEyes(65535, 8);
        for (int eye = 0; eye < 15; eye++) {
            isEyes(1 << eye, NONE, 0, shadeFar(eye), 1, 0, shadeFar(eye + 1), 0);
        }
        isEyes(32768, NONE, 0, 215, 1);
        isEyes(0, NONE, 7, 7, 0);
        for (int eye = 0; eye < 14; eye++) {
            isEyes(3 << eye, eye + 1, 0, shadeFar(eye), 1, 0, shadeFar(eye + 2), 0);
        }
        isEyes(3 << 14, 15, 0, shadeFar(14), 1);
        isEyes(7 << 13, 14, 0, shadeFar(13), 1);
        isEyes(15 << 12, 14, 0, shadeFar(12), 1);
        isEyes(7, 1, 0, 3, 0);
        isEyes(32767, 7, 0, 215, 0);
        isEyes(65534, 8, 0, 1, 1);
    }

    private static void judgesJustApart() {
        due.part("33 'what two or more say of two SHADES; who says otherwise (0 .. 2; NONE)'");
        for (int far = 0; far <= 15; far++) {
            int other = shadeFar(far);
            ShadeNames x = row(far, far, far);
            isAsked("all just alike at " + far, x, x.judged(5, 0, other), 1, NONE);
            if (far == 0) {
                continue;
            }
            x = row(far - 1, far - 1, far - 1);
            isAsked("none just alike at " + far, x, x.judged(5, other, 0), 0, NONE);
            for (int who = 0; who < 3; who++) {
                int[] eyes = {far, far, far};
                eyes[who] = far - 1;
                x = row(eyes);
                isAsked(who + " says not at " + far, x, x.judged(5, 0, other), 1, who);
                int[] turned = {far - 1, far - 1, far - 1};
                turned[who] = far;
                x = row(turned);
                isAsked(who + " says so at " + far, x, x.judged(5, 0, other), 0, who);
            }
        }
        ShadeNames x = row(0, 0, 0);
        isAsked("the least eyes", x, x.judged(5, 215, 215), 1, NONE);
        x = row(15, 15, 15);
        isAsked("the greatest eyes", x, x.judged(5, 215, 0), 1, NONE);
    }

    private static void judgesUnlike() {
        due.part("33 'UNLIKE: no EYE', each 0 .. 15");
        for (int place = 0; place < 3; place++) {
            for (int v : new int[] {-1, 16, Integer.MIN_VALUE, Integer.MAX_VALUE}) {
                int[] eyes = {0, 15, 0};
                eyes[place] = v;
                ShadeNames x = row(eyes);
                isFound(v + " in place " + place, x, x.judged(5, 0, 0), 3);
            }
        }
        due.part("33 'SIZE: not three'");
        for (int many = 0; many <= 40; many++) {
            ShadeNames x = row(new int[many]);
            int got = x.judged(5, 0, 0);
            due.is("of " + many, got, many == 3 ? 1 : -3);
            due.is("of " + many + ", finding()", x.finding(), many == 3 ? 0 : 5);
        }
    }
}
