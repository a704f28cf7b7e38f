/** Promises 34 to 40: edges of fading, chances, lots. */
public final class YearsBoundsTest {
    private static final int NONE = -9;

    private static final Due due = new Due("bounds of years");

    public static void main(String[] args) {
        lostFromAtOnceToNever();
        lostByNoOwnName();
        movesFromNoneToSix();
        movesOfAll();
        wasFromNoneToNine();
        kindsOfNoneToAll();
        chancesFromNoneToAll();
        meansFromNoneToNine();
        lotsByTheLeastAndTheGreatest();
        lotsAside();
        due.end();
    }

    private static void isAsked(String what, ShadeNames x, int got, int want, int asked) {
        due.is(what, got, want);
        due.is(what + ", asked()", x.asked(), asked);
    }

    private static void lostFromAtOnceToNever() {
        due.part("34 'In how many YEARS (0 .. 6)', 'NONE: never'");
        // the first one comes down to where the other stands
        for (int a = 0; a <= 5; a++) {
            ShadeNames x = Runs.with("n" + a + "000001 n0000100");
            due.is("from " + a, x.lost(1), a);
            due.is("the first itself", x.lost(0), NONE);
            for (int passed = 1; passed <= a; passed++) {
                x.year();
                due.is("from " + a + ", " + passed + " years on", x.lost(1), a - passed);
            }
            due.is("deeds", x.count(1), a);
        }
        // the other comes down to where the first one stands
        for (int a = 0; a <= 5; a++) {
            ShadeNames x = Runs.with("n0000000 n" + a + "000101");
            due.is("the other from " + a, x.lost(1), a);
        }
        due.is("aside", Runs.with("n0010001 n5000101").lost(1), NONE);
        due.is("one name", Runs.with("n5000101").lost(0), NONE);
        due.is("met for a year alone", Runs.with("n5000001 n2000100").lost(1), 3);
        due.is("at the same pace, till both are at 0", Runs.with("n5000001 n4000101 n0000000").lost(1), 5);
        due.is("freed in a year, lost now", Runs.with("n2000001 n2000100").lost(1), 0);
        due.is("the eighth", Runs.with("n5000001" + "n5550000".repeat(6) + "n0000100").lost(7), 5);
    }

    private static void lostByNoOwnName() {
        due.part("34 'CALLED by a NAME of another OWNER'");
        due.is("of the same owner, at once", Runs.with("n0000200 n0000200").lost(1), NONE);
        due.is("of the same owner, later", Runs.with("n3000201 n0000200").lost(1), NONE);
        due.is("of the same owner ahead of another's", Runs.with("n0000200 n0000100 n0000200").lost(2), NONE);
        due.is("of another ahead of the same owner's", Runs.with("n0000100 n0000200 n0000200").lost(2), 0);
        due.is("of another behind", Runs.with("n0000200 n0000100").lost(0), NONE);
        due.is("by the range", Runs.with("n3001001 n0000100").lost(1), 2);
        due.is("by a poets' one", Runs.with("p3002001 n0000100").lost(1), 2);
        due.is("the eighth, at once", Runs.with("w0009000" + "n0000000".repeat(6) + "n5550100").lost(7), 0);
    }

    private static void movesFromNoneToSix() {
        due.part("35 'n (0 .. 6) YEARS from now', 'FREE ones nobody's'");
        for (int a = 0; a <= 5; a++) {
            ShadeNames x = Runs.with("n" + a + "000001");
            for (int n = 0; n <= 6; n++) {
                due.is("one from " + a + ", in " + n, x.moves(n), a == 0 || n == 0 ? 0 : 2);
            }
            due.is("deeds", x.count(1), 0);
        }
        ShadeNames x = Runs.with("n5000000");
        for (int n = 0; n <= 6; n++) {
            due.is("none fades", x.moves(n), 0);
            due.is("no names", new ShadeNames().moves(n), 0);
        }
        due.is("from nobody alone", Runs.with("n1000001 n1000000").moves(1), 1);
        due.is("to nobody alone", Runs.with("n1000001 n0000000").moves(1), 1);
        due.is("to another", Runs.with("n1000001 n1000100 n0000000").moves(1), 1);
        due.is("to the same owner", Runs.with("n1000001 n1000000 n0000000").moves(1), 0);
        due.is("by another NAME of the same owner", Runs.with("n1000301 n1000300 n0000300").moves(6), 0);
    }

    private static void movesOfAll() {
        due.part("35 moves, of many");
        // 200, 110, 101 go, 010, 001 come; there is nothing below a part of 0
        due.is("at the corner 000", Runs.with("n1001001").moves(1), 5);
        // 545, 554 go, 355, 445, 454 come; there is nothing above a part of 5
        due.is("at the corner 555", Runs.with("n5551001").moves(1), 5);
        ShadeNames x = Runs.with("d1220001 w0009100");
        due.is("six of 12. to the other, six of 02. from it", x.moves(1), 12);
        // it reaches b and c of 1 to 5, 25 shades for each a: a of 1 to 5, then all, then 0 to 4
        x = Runs.with("w5554001 w0009100");
        int[] want = {0, 25, 25, 25, 25, 50, 50};
        for (int n = 0; n < want.length; n++) {
            due.is("in " + n, x.moves(n), want[n]);
        }
    }

    private static void wasFromNoneToNine() {
        due.part("36 'fading for n (0 .. 9) YEARS (a 1 less each, not below 0); the first (NONE)'");
        ShadeNames x = new ShadeNames();
        for (int a = 0; a <= 5; a++) {
            for (int n = 0; n <= 9; n++) {
                int shade = Runs.shade(a, 5, 3);
                String what = "a of " + a + ", " + n + " years";
                if (a == 0) {
                    isAsked(what, x, x.was(shade, n), Math.min(n, 5) + 1, shade);
                } else if (a + n <= 5) {
                    isAsked(what, x, x.was(shade, n), 1, Runs.shade(a + n, 5, 3));
                } else {
                    isAsked(what, x, x.was(shade, n), 0, NONE);
                }
            }
        }
        isAsked("the first shade", x, x.was(0, 9), 6, 0);
        isAsked("the last shade", x, x.was(215, 0), 1, 215);
        isAsked("the last shade, a year", x, x.was(215, 1), 0, NONE);
        due.is("deeds", x.count(1), 0);
    }

    private static void kindsOfNoneToAll() {
        due.part("37 'REACHES just so many SHADES (0 .. 216)'");
        int[] own = {0, 215, 86, Runs.shade(0, 2, 5)};
        for (int shade : own) {
            for (int range = 0; range <= 9; range++) {
                ShadeNames x = Runs.with(Runs.item('n', shade, range, 0, 0, 0));
                int[] many = new int[6];
                for (int kind = 0; kind < 6; kind++) {
                    char letter = "nwsldp".charAt(kind);
                    many[kind] = Model.reachOf(letter, shade / 36, shade / 6 % 6, shade % 6, range).size();
                }
                for (int so = 0; so <= 216; so++) {
                    int want = 0;
                    for (int kind = 0; kind < 6; kind++) {
                        want |= many[kind] == so ? 1 << kind : 0;
                    }
                    due.is("kinds(0, " + so + ") of " + shade + " by " + range, x.kinds(0, so), want);
                }
            }
        }
        due.is("none at all", Runs.with("n0000000").kinds(0, 0), 0);
        due.is("all, by 9", Runs.with("p5559000").kinds(0, 216), 2 + 16);
        due.is("all, by 9, from 222", Runs.with("p2229000").kinds(0, 216), 1 + 2 + 16);
        due.is("one, by 0", Runs.with("d5550000").kinds(0, 1), 1 + 2 + 4 + 8 + 32);
        due.is("its own kind is no matter", Runs.with("d5550000").kinds(0, 6), 16);
    }

    private static void isChance(String what, ShadeNames x, int got, long upper, long lower) {
        due.is(what, got, 1);
        due.is(what + ", upper()", x.upper(), upper);
        due.is(what + ", lower()", x.lower(), lower);
    }

    private static void chancesFromNoneToAll() {
        due.part("38 'in lowest terms, the lower number above 0 (0 by 1)'");
        ShadeNames x = new ShadeNames();
        for (int person = 0; person < 4; person++) {
            isChance("no names", x, x.odds(person), 0, 1);
        }
        x = Runs.with("w0009300");
        for (int person = 0; person < 4; person++) {
            isChance("all are 3's", x, x.odds(person), person == 3 ? 1 : 0, 1);
        }
        x = Runs.with("n0000000");
        isChance("one", x, x.odds(0), 1, 216);
        x = Runs.with("n0000000 w0009100");
        isChance("all but one", x, x.odds(1), 215, 216);
        x = Runs.with("d0002000 w0009100");
        isChance("54 of 216", x, x.odds(0), 1, 4);
        isChance("162 of 216", x, x.odds(1), 3, 4);
        isChance("none", x, x.odds(2), 0, 1);
        x = Runs.with("w0001200 n5550200");
        isChance("9 of 216", x, x.odds(2), 1, 24);
    }

    private static void meansFromNoneToNine() {
        due.part("39 'The mean of what a PERSON OWES for a SHADE by chance'");
        isChance("no names", new ShadeNames(), new ShadeNames().mid(0), 0, 1);
        ShadeNames x = Runs.with("w0009390");
        for (int person = 0; person < 4; person++) {
            isChance("9 for all", x, x.mid(person), person == 3 ? 0 : 9, 1);
        }
        x.due(0, 0);
        isChance("a due of 0", x, x.mid(0), 0, 1);
        x = Runs.with("p0009390");
        isChance("a poets' one", x, x.mid(0), 0, 1);
        x = Runs.with("n0000010");
        isChance("1 for one", x, x.mid(1), 1, 216);
        isChance("its own", x, x.mid(0), 0, 1);
        x = Runs.with("n0000080 w0009190");
        isChance("8 for one, 9 for 215", x, x.mid(2), 8 + 9 * 215, 216);
        isChance("9 for 215", x, x.mid(0), 9 * 215 / 9, 24);
        isChance("8 for one", x, x.mid(1), 1, 27);
    }

    /** A name for the shade of one lot alone. */
    private static ShadeNames forLot(long number, int dues) {
        int shade = (int) (number / 8 % 216);
        return Runs.with(Runs.item('n', shade, 0, 0, dues, 0));
    }

    private static void lotsByTheLeastAndTheGreatest() {
        due.part("40 lots, section 3 '48271 times it modulo 2147483647, the first from a seed'");
        due.is("seed 1", forLot(48271, 7).lots(1, 1, 1), 7);
        due.is("seed 2", forLot(2 * 48271, 7).lots(1, 1, 2), 7);
        due.is("the greatest seed", forLot(2147483647L - 48271, 7).lots(1, 1, 2147483646), 7);
        due.is("the one ahead of it", forLot(2147483647L - 2 * 48271, 7).lots(1, 1, 2147483645), 7);
        due.is("the seed itself is no lot", forLot(8, 7).lots(1, 1, 8), 0);
        due.is("just within the modulus", forLot(44488L * 48271, 7).lots(1, 1, 44488), 7);
        due.is("just beyond the modulus", forLot(44489L * 48271 - 2147483647L, 7).lots(1, 1, 44489), 7);
        due.part("40 'n (1 .. 40)'");
        ShadeNames x = Runs.with("w0009090");
        for (int n = 1; n <= 40; n++) {
            due.is("9 for each of " + n, x.lots(1, n, 77), 9 * n);
            due.is("its own", x.lots(0, n, 77), 0);
        }
        ShadeNames some = Runs.with("d0002050 w0009130");
        long lot = 2147483646;
        int owed = 0;
        for (int n = 1; n <= 40; n++) {
            lot = lot * 48271 % 2147483647L;
            int shade = (int) (lot / 8 % 216);
            owed += some.owes(2, shade);
            due.is("of " + n, some.lots(2, n, 2147483646), owed);
        }
    }

    private static void lotsAside() {
        due.part("40 'aside'");
        ShadeNames x = Runs.with("w0009090");
        long before = x.digest();
        x.odds(0);
        due.is("first", x.lots(1, 40, 5), 360);
        due.is("again the same", x.lots(1, 40, 5), 360);
        due.is("digest()", x.digest(), before);
        due.is("upper()", x.upper(), 1);
        due.is("asked()", x.asked(), 0);
    }
}
