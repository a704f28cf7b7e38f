import java.util.function.Supplier;

/**
 * The document's Terms: which refusal comes first, that a refused call changes nothing but finding()
 * and findings(), and, for every number that a call takes, the least and the greatest that it takes.
 */
public final class RefusalsTest {
    private static final int BAD = -1, NONE = -9;
    private static final int NOTHING = 1, BEYOND = 2, UNLIKE = 3, NOUGHT = 4, SIZE = 5;
    private static final int MIN = Integer.MIN_VALUE, MAX = Integer.MAX_VALUE;

    private static final Due due = new Due("refusals");
    private static final Twins twins = new Twins(due);

    private static final Supplier<ShadeNames> RICH = Runs::rich;
    private static final Supplier<ShadeNames> NEW = ShadeNames::new;

    /** A call in which one number is open. */
    private interface Open {
        int answer(ShadeNames x, int v);
    }

    public static void main(String[] args) {
        numbersOfRowsAndTexts();
        numbersOfNames();
        numbersOfDeeds();
        numbersOfShades();
        numbersOfTheFewest();
        numbersOfYearsAndChances();
        namesThatAreNone();
        ordersOfRowsAndTexts();
        ordersOfNamesAndDeeds();
        ordersOfRowsOfShades();
        findingsOfRowsAndTexts();
        findingsOfNamesAndDeeds();
        findingsOfRowsOfShades();
        due.end();
    }

    /** A call that takes the numbers least .. most alone, all else being as it should. */
    private static void takes(String call, int least, int most, Open of) {
        int[] good = {least, Math.min(least + 1, most), Math.max(most - 1, least), most};
        for (int v : good) {
            due.holds(call + " takes " + v, of.answer(Runs.rich(), v) != BAD);
        }
        long[] wrong = {least - 1L, most + 1L, MIN, MAX, least - 256L, most + 256L};
        for (long v : wrong) {
            if (v >= MIN && v <= MAX && (v < least || v > most)) {
                twins.bad(call + " by " + v, RICH, x -> of.answer(x, (int) v));
            }
        }
    }

    /** For calls to which a number below none is no BAD one, but another refusal. */
    private static void takesAtMost(String call, int most, Open of) {
        due.holds(call + " takes " + most, of.answer(Runs.rich(), most) != BAD);
        for (int v : new int[] {most + 1, most + 256, MAX}) {
            twins.bad(call + " by " + v, RICH, x -> of.answer(x, v));
        }
    }

    private static void numbersOfRowsAndTexts() {
        due.part("BAD: rows 0 .. 5, texts 0 .. 3");
        takes("row(., 3)", 0, 5, (x, v) -> x.row(v, 3));
        takesAtMost("row(0, .)", 40, (x, v) -> x.row(0, v));
        takes("lay(., 0, 5)", 0, 5, (x, v) -> x.lay(v, 0, 5));
        takes("at(., 0)", 0, 5, (x, v) -> x.at(v, 0));
        takes("tear(.)", 0, 5, (x, v) -> x.tear(v));
        takes("copy(., 0, 4, 0, 1)", 0, 5, (x, v) -> x.copy(v, 0, 4, 0, 1));
        takes("copy(0, 0, ., 0, 1)", 0, 5, (x, v) -> x.copy(0, 0, v, 0, 1));
        takes("mean(.)", 0, 5, (x, v) -> x.mean(v));
        takes("text(., 3)", 0, 3, (x, v) -> x.text(v, 3));
        takesAtMost("text(0, .)", 80, (x, v) -> x.text(0, v));
        takes("put(., 0, 5)", 0, 3, (x, v) -> x.put(v, 0, 5));
        takes("fault(.)", 0, 3, (x, v) -> x.fault(v));
        takes("registry(.)", 0, 3, (x, v) -> x.registry(v));
    }

    private static void numbersOfNames() {
        due.part("BAD: names, here 0 .. 6");
        takes("name(., 0)", 0, 6, (x, v) -> x.name(v, 0));
        takes("name(0, .)", 0, 6, (x, v) -> x.name(0, v));
        takes("mark(., 1)", 0, 6, (x, v) -> x.mark(v, 1));
        takes("mark(0, .)", 1, 5, (x, v) -> x.mark(0, v));
        takes("mark(1, .)", 1, 5, (x, v) -> x.mark(1, v));
        takes("due(., 3)", 0, 6, (x, v) -> x.due(v, 3));
        takes("due(0, .)", 0, 9, (x, v) -> x.due(0, v));
        takes("lost(.)", 0, 6, (x, v) -> x.lost(v));
        takes("kinds(., 1)", 0, 6, (x, v) -> x.kinds(v, 1));
        takes("kinds(0, .)", 0, 216, (x, v) -> x.kinds(0, v));
    }

    private static void numbersOfDeeds() {
        due.part("BAD: kinds, shades, ranges, owners, deeds, places of kept registries");
        takes("say(., 185, 0, 0)", 0, 5, (x, v) -> x.say(v, 185, 0, 0));
        takes("say(0, ., 0, 0)", 0, 215, (x, v) -> x.say(0, v, 0, 0));
        takes("say(0, 185, ., 0)", 0, 9, (x, v) -> x.say(0, 185, v, 0));
        takes("say(0, 185, 0, .)", 0, 3, (x, v) -> x.say(0, 185, 0, v));
        takes("undo(.), of three deeds", 0, 3, (x, v) -> x.undo(v));
        takes("keep(.)", 0, 2, (x, v) -> x.keep(v));
        takes("on(.)", 0, 2, (x, v) -> x.on(v));
    }

    private static void numbersOfShades() {
        due.part("BAD: shades 0 .. 215, persons 0 .. 3");
        takes("apart(., 0)", 0, 215, (x, v) -> x.apart(v, 0));
        takes("apart(0, .)", 0, 215, (x, v) -> x.apart(0, v));
        takes("called(.)", 0, 215, (x, v) -> x.called(v));
        takes("owes(., 0)", 0, 3, (x, v) -> x.owes(v, 0));
        takes("owes(0, .)", 0, 215, (x, v) -> x.owes(0, v));
        takes("gap(., 0)", 0, 5, (x, v) -> x.gap(v, 0));
        takes("gap(0, .)", 0, 9, (x, v) -> x.gap(0, v));
        takes("lives(., 0)", 0, 3, (x, v) -> x.lives(v, 0));
        takes("lives(0, .)", 0, 5, (x, v) -> x.lives(0, v));
    }

    private static void numbersOfTheFewest() {
        due.part("BAD: rows, ranges, shades, persons");
        takes("cover(., 0)", 0, 5, (x, v) -> x.cover(v, 0));
        takes("cover(0, .)", 0, 9, (x, v) -> x.cover(0, v));
        takes("best(., 0)", 0, 5, (x, v) -> x.best(v, 0));
        takes("best(0, .)", 0, 9, (x, v) -> x.best(0, v));
        takes("mix(., 0)", 0, 5, (x, v) -> x.mix(v, 0));
        takes("mix(0, .)", 0, 215, (x, v) -> x.mix(0, v));
        takes("cheap(., 0)", 0, 5, (x, v) -> x.cheap(v, 0));
        takes("cheap(0, .)", 0, 3, (x, v) -> x.cheap(0, v));
        takes("eyes(.)", 0, 5, (x, v) -> x.eyes(v));
        takes("show(.)", 0, 5, (x, v) -> x.show(v));
        takes("judged(., 0, 0)", 0, 5, (x, v) -> x.judged(v, 0, 0));
        takes("judged(1, ., 0)", 0, 215, (x, v) -> x.judged(1, v, 0));
        takes("judged(1, 0, .)", 0, 215, (x, v) -> x.judged(1, 0, v));
    }

    private static void numbersOfYearsAndChances() {
        due.part("BAD: years, persons, how many, seeds, what is told");
        takes("moves(.)", 0, 6, (x, v) -> x.moves(v));
        takes("was(., 0)", 0, 215, (x, v) -> x.was(v, 0));
        takes("was(0, .)", 0, 9, (x, v) -> x.was(0, v));
        takes("odds(.)", 0, 3, (x, v) -> x.odds(v));
        takes("mid(.)", 0, 3, (x, v) -> x.mid(v));
        takes("lots(., 1, 1)", 0, 3, (x, v) -> x.lots(v, 1, 1));
        takes("lots(0, ., 1)", 1, 40, (x, v) -> x.lots(0, v, 1));
        takes("lots(0, 1, .)", 1, 2147483646, (x, v) -> x.lots(0, 1, v));
        takes("count(.)", 0, 8, (x, v) -> x.count(v));
        takes("findings(.)", 1, 5, (x, v) -> x.findings(v));
    }

    /** A registry has 0 to 8 names: the number of the next is none, nor is the first without any. */
    private static void namesThatAreNone() {
        due.part("BAD: a name that there is not");
        Supplier<ShadeNames> eight = () -> Runs.with("d0000000".repeat(8));
        for (int many : new int[] {0, 8}) {
            Supplier<ShadeNames> start = many == 0 ? NEW : eight;
            twins.bad("name(" + many + ", 0)", start, x -> x.name(many, 0));
            twins.bad("mark(" + many + ", 1)", start, x -> x.mark(many, 1));
            twins.bad("due(" + many + ", 1)", start, x -> x.due(many, 1));
            twins.bad("lost(" + many + ")", start, x -> x.lost(many));
            twins.bad("kinds(" + many + ", 6)", start, x -> x.kinds(many, 6));
        }
        ShadeNames x = eight.get();
        due.is("name(7, 0)", x.name(7, 0), 1);
        due.is("mark(7, 4)", x.mark(7, 4), 7);
        due.is("due(7, 1)", x.due(7, 1), 0);
        due.is("lost(7)", x.lost(7), NONE);
        due.is("kinds(7, 6)", x.kinds(7, 6), 16);
        due.part("BAD: a name that was said and is undone");
        Supplier<ShadeNames> undone = () -> {
            ShadeNames y = Runs.rich();
            y.undo(1);
            return y;
        };
        due.is("the one ahead of it", undone.get().name(5, 0), 1);
        twins.bad("name(6, 0)", undone, y -> y.name(6, 0));
        twins.bad("mark(6, 2)", undone, y -> y.mark(6, 2));
        twins.bad("due(6, 1)", undone, y -> y.due(6, 1));
        twins.bad("lost(6)", undone, y -> y.lost(6));
        twins.bad("kinds(6, 1)", undone, y -> y.kinds(6, 1));
        due.part("BAD: a deed that is undone");
        twins.bad("undo(2), one left", undone, y -> y.undo(2));
        twins.bad("undo(1), of none", NEW, y -> y.undo(1));
        twins.bad("undo(-1), of none", NEW, y -> y.undo(-1));
    }

    /** Rows 0 and 1 are there, of 2 and 3 places; the others are missing. */
    private static ShadeNames someRows() {
        ShadeNames x = Runs.rich();
        Runs.fill(x, 0, 216, -1);
        for (int r = 2; r < 6; r++) {
            x.tear(r);
        }
        x.at(1, 1);
        return x;
    }

    /** Text 0 alone, of two signs, and no names. */
    private static ShadeNames oneText() {
        ShadeNames x = new ShadeNames();
        Runs.write(x, 0, "n0");
        return x;
    }

    private static void ordersOfRowsAndTexts() {
        due.part("BAD ahead of FINDING");
        twins.bad("row(6, -1): SIZE", RICH, x -> x.row(6, -1));
        twins.bad("row(-1, MIN): SIZE", RICH, x -> x.row(-1, MIN));
        twins.bad("row(-1, 41)", RICH, x -> x.row(-1, 41));
        twins.bad("lay(6, 40, 1): BEYOND", RICH, x -> x.lay(6, 40, 1));
        twins.bad("at(-1, -1): BEYOND", RICH, x -> x.at(-1, -1));
        twins.bad("text(4, -1): SIZE", RICH, x -> x.text(4, -1));
        twins.bad("text(-1, 81)", RICH, x -> x.text(-1, 81));
        twins.bad("put(4, -1, 1): BEYOND", RICH, x -> x.put(4, -1, 1));
        twins.bad("copy(6, 0, 0, 0, -1): SIZE", RICH, x -> x.copy(6, 0, 0, 0, -1));
        twins.bad("copy(0, 0, 6, 0, -1): SIZE", RICH, x -> x.copy(0, 0, 6, 0, -1));
        twins.bad("copy(2, 0, 6, 0, 1): NOTHING", RefusalsTest::someRows, x -> x.copy(2, 0, 6, 0, 1));
        twins.bad("copy(-1, 0, 2, 0, 1): NOTHING", RefusalsTest::someRows, x -> x.copy(-1, 0, 2, 0, 1));
        twins.bad("copy(0, 40, -1, 0, 9): BEYOND", RICH, x -> x.copy(0, 40, -1, 0, 9));
        twins.bad("copy(6, 0, 0, -1, 9): BEYOND", RICH, x -> x.copy(6, 0, 0, -1, 9));
        due.part("findings in the order in which the promise has them");
        twins.found("lay of a missing row, beyond", RefusalsTest::someRows, x -> x.lay(2, -1, 1), NOTHING);
        twins.found("at of a missing row, beyond", RefusalsTest::someRows, x -> x.at(2, 40), NOTHING);
        twins.found("put of a missing text, beyond", RefusalsTest::oneText, x -> x.put(1, 80, 1), NOTHING);
        twins.found("copy: SIZE, NOTHING", RefusalsTest::someRows, x -> x.copy(2, 0, 3, 0, -1), SIZE);
        twins.found("copy: SIZE, BEYOND", RefusalsTest::someRows, x -> x.copy(0, 9, 1, -1, -1), SIZE);
        twins.found("copy: NOTHING of the first, BEYOND", RefusalsTest::someRows, x -> x.copy(2, 0, 1, 9, 1), NOTHING);
        twins.found("copy: NOTHING of the other, BEYOND", RefusalsTest::someRows, x -> x.copy(1, 9, 2, 0, 1), NOTHING);
        due.part("registry: STATE behind NOTHING");
        twins.found("a missing text", RefusalsTest::oneText, x -> x.registry(1), NOTHING);
        twins.state("a text with a fault", RefusalsTest::oneText, x -> x.registry(0));
    }

    private static ShadeNames eightNames() {
        return Runs.with("n0000000".repeat(8));
    }

    private static ShadeNames fortyDeeds() {
        ShadeNames x = Runs.with("n0000000");
        for (int i = 0; i < 40; i++) {
            x.year();
        }
        return x;
    }

    private static void ordersOfNamesAndDeeds() {
        due.part("BAD ahead of FINDING");
        twins.bad("mark(7, 1): UNLIKE", RICH, x -> x.mark(7, 1));
        twins.bad("mark(0, 0): UNLIKE", RICH, x -> x.mark(0, 0));
        twins.bad("mark(1, 0)", RICH, x -> x.mark(1, 0));
        twins.bad("mark(0, 6): UNLIKE", RICH, x -> x.mark(0, 6));
        due.part("BAD ahead of STATE");
        twins.bad("say, no names", NEW, x -> x.say(6, 0, 0, 0));
        twins.bad("say, not free", RICH, x -> x.say(0, 86, 10, 0));
        twins.bad("keep, no names", NEW, x -> x.keep(3));
        due.part("BAD ahead of FULL");
        twins.bad("say, eight names", RefusalsTest::eightNames, x -> x.say(0, 215, 0, 4));
        twins.bad("say, forty deeds", RefusalsTest::fortyDeeds, x -> x.say(0, 215, -1, 0));
        due.part("FULL last: STATE ahead of it");
        twins.state("say, eight names, not free", RefusalsTest::eightNames, x -> x.say(0, 0, 0, 0));
        twins.state("say, forty deeds, not free", RefusalsTest::fortyDeeds, x -> x.say(0, 0, 0, 0));
        twins.full("say, eight names, free", RefusalsTest::eightNames, x -> x.say(0, 215, 0, 0));
        twins.full("say, forty deeds, free", RefusalsTest::fortyDeeds, x -> x.say(0, 215, 0, 0));
        twins.full("year, forty deeds", RefusalsTest::fortyDeeds, x -> x.year());
        due.part("STATE: no names");
        twins.state("say(0, 0, 0, 0)", NEW, x -> x.say(0, 0, 0, 0));
        twins.state("year()", NEW, x -> x.year());
        twins.state("keep(0)", NEW, x -> x.keep(0));
        twins.state("keep(2)", NEW, x -> x.keep(2));
    }

    /** A row of so many shades, the last of which is v. */
    private static Supplier<ShadeNames> rowOf(int many, int v) {
        return () -> {
            ShadeNames x = someRows();
            x.row(0, many);
            x.lay(0, many - 1, v);
            return x;
        };
    }

    private static void ordersOfRowsOfShades() {
        due.part("BAD, NOTHING, SIZE, UNLIKE, in this order");
        inOrder("cover", 7, new int[] {-1, 10}, (x, r, v) -> x.cover(r, v));
        inOrder("best", 7, new int[] {-1, 10}, (x, r, v) -> x.best(r, v));
        inOrder("mix", 5, new int[] {-1, 216}, (x, r, v) -> x.mix(r, v));
        inOrder("cheap", 5, new int[] {-1, 4}, (x, r, v) -> x.cheap(r, v));
        inOrder("eyes", 4, new int[0], (x, r, v) -> x.eyes(r));
        inOrder("show", 4, new int[0], (x, r, v) -> x.show(r));
        inOrder("judged", 4, new int[] {-1, 216}, (x, r, v) -> x.judged(r, v, 0));
        inOrder("judged, by the other", 4, new int[] {-1, 216}, (x, r, v) -> x.judged(r, 0, v));
        due.part("lives: BAD, NOTHING, UNLIKE");
        twins.bad("BAD, NOTHING", RefusalsTest::someRows, x -> x.lives(4, 2));
        twins.bad("BAD, UNLIKE", RefusalsTest::someRows, x -> x.lives(-1, 0));
        twins.bad("BAD, both", RefusalsTest::someRows, x -> x.lives(4, 6));
        twins.found("NOTHING", RefusalsTest::someRows, x -> x.lives(0, 2), NOTHING);
    }

    private interface RowCall {
        int answer(ShadeNames x, int r, int v);
    }

    private static void inOrder(String call, int tooMany, int[] wrong, RowCall of) {
        Supplier<ShadeNames> unlike = rowOf(3, 1000);
        Supplier<ShadeNames> sizeAndUnlike = rowOf(tooMany, 1000);
        for (int v : wrong) {
            twins.bad(call + ": BAD, NOTHING", RefusalsTest::someRows, x -> of.answer(x, 2, v));
            twins.bad(call + ": BAD, SIZE", rowOf(tooMany, 0), x -> of.answer(x, 0, v));
            twins.bad(call + ": BAD, UNLIKE", unlike, x -> of.answer(x, 0, v));
            twins.bad(call + ": BAD, SIZE, UNLIKE", sizeAndUnlike, x -> of.answer(x, 0, v));
            twins.bad(call + ": BAD, both", RICH, x -> of.answer(x, 6, v));
        }
        twins.found(call + ": NOTHING", RefusalsTest::someRows, x -> of.answer(x, 2, 0), NOTHING);
        twins.found(call + ": SIZE, UNLIKE", sizeAndUnlike, x -> of.answer(x, 0, 0), SIZE);
        twins.found(call + ": SIZE", rowOf(tooMany, 0), x -> of.answer(x, 0, 0), SIZE);
        twins.found(call + ": UNLIKE", unlike, x -> of.answer(x, 0, 0), UNLIKE);
    }

    private static ShadeNames rowThreeMissing() {
        ShadeNames x = Runs.rich();
        x.tear(3);
        return x;
    }

    private static void findingsOfRowsAndTexts() {
        due.part("NOTHING: a row that is missing");
        twins.found("lay", RefusalsTest::rowThreeMissing, x -> x.lay(3, 0, 1), NOTHING);
        twins.found("at", RefusalsTest::rowThreeMissing, x -> x.at(3, 0), NOTHING);
        twins.found("tear", RefusalsTest::rowThreeMissing, x -> x.tear(3), NOTHING);
        twins.found("mean", RefusalsTest::rowThreeMissing, x -> x.mean(3), NOTHING);
        twins.found("copy from it", RefusalsTest::rowThreeMissing, x -> x.copy(3, 0, 4, 0, 0), NOTHING);
        twins.found("copy to it", RefusalsTest::rowThreeMissing, x -> x.copy(4, 0, 3, 0, 0), NOTHING);
        twins.found("copy from it to itself", RefusalsTest::rowThreeMissing, x -> x.copy(3, 0, 3, 0, 0), NOTHING);
        due.part("NOTHING: a text that is missing");
        twins.found("put", RefusalsTest::oneText, x -> x.put(3, 0, 1), NOTHING);
        twins.found("fault", RefusalsTest::oneText, x -> x.fault(3), NOTHING);
        twins.found("registry", RefusalsTest::oneText, x -> x.registry(3), NOTHING);
        due.part("SIZE: fewer than none");
        twins.found("row(0, -1)", RICH, x -> x.row(0, -1), SIZE);
        twins.found("row(5, MIN)", RICH, x -> x.row(5, MIN), SIZE);
        twins.found("row(3, -1), missing", RefusalsTest::rowThreeMissing, x -> x.row(3, -1), SIZE);
        twins.found("text(0, -1)", RICH, x -> x.text(0, -1), SIZE);
        twins.found("text(3, MIN)", RICH, x -> x.text(3, MIN), SIZE);
        twins.found("text(1, -1), missing", RefusalsTest::oneText, x -> x.text(1, -1), SIZE);
        twins.found("copy of -1", RICH, x -> x.copy(0, 0, 4, 0, -1), SIZE);
        twins.found("copy of MIN", RICH, x -> x.copy(0, 0, 4, 0, MIN), SIZE);
        due.part("BEYOND: a place that there is not");
        for (int i : new int[] {-1, 4, 40, MIN, MAX}) {
            twins.found("lay(0, " + i + ", 1)", RICH, x -> x.lay(0, i, 1), BEYOND);
            twins.found("at(0, " + i + ")", RICH, x -> x.at(0, i), BEYOND);
        }
        for (int i : new int[] {-1, 8, 80, MIN, MAX}) {
            twins.found("put(3, " + i + ", 1)", RICH, x -> x.put(3, i, 1), BEYOND);
        }
        twins.found("lay(3, 0, 1), of none", RICH, x -> x.lay(3, 0, 1), BEYOND);
        twins.found("at(3, 0), of none", RICH, x -> x.at(3, 0), BEYOND);
        twins.found("put(1, 0, 1), of none", RICH, x -> x.put(1, 0, 1), BEYOND);
        twins.found("lay(4, 40, 1)", RICH, x -> x.lay(4, 40, 1), BEYOND);
        twins.found("at(4, 40)", RICH, x -> x.at(4, 40), BEYOND);
        twins.found("put(2, 80, 1)", RICH, x -> x.put(2, 80, 1), BEYOND);
        copyBeyond();
        due.part("NOUGHT: shared among none");
        twins.found("mean(3)", RICH, x -> x.mean(3), NOUGHT);
    }

    private static void copyBeyond() {
        due.part("BEYOND: not so many there");
        int[][] wrong = {
            {0, 0, 4, 0, 5}, {0, 1, 4, 0, 4}, {0, 3, 4, 0, 2}, {0, 4, 4, 0, 1}, {0, 5, 4, 0, 0}, {0, -1, 4, 0, 1},
            {0, -1, 4, 0, 0}, {0, MIN, 4, 0, 4}, {0, MAX, 4, 0, 4}, {0, MAX, 4, 0, MAX}, {0, 1, 4, 0, MAX},
            {4, 0, 0, 0, 5}, {4, 0, 0, 1, 4}, {4, 0, 0, 3, 2}, {4, 0, 0, 4, 1}, {4, 0, 0, 5, 0}, {4, 0, 0, -1, 1},
            {4, 0, 0, -1, 0}, {4, 0, 0, MIN, 4}, {4, 0, 0, MAX, 4}, {4, 0, 0, MAX, MAX}, {4, 0, 4, 0, 41},
            {4, 0, 4, 1, 40}, {4, 1, 4, 0, 40}, {3, 0, 0, 0, 1}, {0, 0, 3, 0, 1}, {3, 1, 3, 0, 0}, {3, 0, 3, 1, 0}};
        for (int[] v : wrong) {
            String call = "copy(" + v[0] + ", " + v[1] + ", " + v[2] + ", " + v[3] + ", " + v[4] + ")";
            twins.found(call, RICH, x -> x.copy(v[0], v[1], v[2], v[3], v[4]), BEYOND);
        }
    }

    private static void findingsOfNamesAndDeeds() {
        due.part("UNLIKE: a name of another kind");
        // of the kinds 0 to 5 and the one that was said, a sharp one: what each is, beside a name
        int[][] is = {{}, {1}, {2}, {3}, {1, 4}, {2, 5}, {2}};
        for (int k = 0; k < is.length; k++) {
            for (int kind = 1; kind <= 5; kind++) {
                int name = k;
                int asked = kind;
                boolean like = false;
                for (int one : is[k]) {
                    like |= one == kind;
                }
                if (like) {
                    due.holds("mark(" + k + ", " + kind + ")", Runs.rich().mark(name, asked) >= 0);
                } else {
                    twins.found("mark(" + k + ", " + kind + ")", RICH, x -> x.mark(name, asked), UNLIKE);
                }
            }
        }
        due.part("NOTHING: a kept registry that is missing");
        twins.found("on(1)", RICH, x -> x.on(1), NOTHING);
        for (int k = 0; k < 3; k++) {
            int place = k;
            twins.found("on(" + k + "), no names", NEW, x -> x.on(place), NOTHING);
        }
        due.part("STATE: its shade is not free");
        twins.state("its own", RICH, x -> x.say(0, 185, 0, 0));
        twins.state("at a rim", () -> Runs.with("n0002000"), x -> x.say(0, 2, 0, 0));
        due.part("STATE: a fault");
        twins.state("blanks alone", RICH, x -> x.registry(2));
        twins.state("of none", RICH, x -> x.registry(1));
        twins.state("a blank within", RICH, x -> x.registry(3));
    }

    private static void findingsOfRowsOfShades() {
        due.part("UNLIKE: a number that is none");
        for (int v : new int[] {-1, 216, MIN, MAX}) {
            for (int many : new int[] {1, 40}) {
                twins.found("lives, " + v + " of " + many, rowOf(many, v), x -> x.lives(0, 0), UNLIKE);
            }
            for (int many : new int[] {1, 6}) {
                twins.found("cover, " + v + " of " + many, rowOf(many, v), x -> x.cover(0, 9), UNLIKE);
                twins.found("best, " + v + " of " + many, rowOf(many, v), x -> x.best(0, 9), UNLIKE);
            }
            for (int many : new int[] {1, 4}) {
                twins.found("mix, " + v + " of " + many, rowOf(many, v), x -> x.mix(0, 0), UNLIKE);
                twins.found("cheap, " + v + " of " + many, rowOf(many, v), x -> x.cheap(0, 0), UNLIKE);
            }
        }
        due.part("SIZE: too many, not as many as due");
        for (int many : new int[] {7, 40}) {
            twins.found("cover of " + many, rowOf(many, 0), x -> x.cover(0, 9), SIZE);
            twins.found("best of " + many, rowOf(many, 0), x -> x.best(0, 9), SIZE);
        }
        for (int many : new int[] {5, 40}) {
            twins.found("mix of " + many, rowOf(many, 0), x -> x.mix(0, 0), SIZE);
            twins.found("cheap of " + many, rowOf(many, 0), x -> x.cheap(0, 0), SIZE);
        }
        twins.found("mix of none", RICH, x -> x.mix(3, 0), SIZE);
        twins.found("cheap of none", RICH, x -> x.cheap(3, 0), SIZE);
        for (int many : new int[] {1, 2, 4, 5, 38, 40}) {
            twins.found("eyes of " + many, rowOf(many, 0), x -> x.eyes(0), SIZE);
            twins.found("show of " + many, rowOf(many, 0), x -> x.show(0), SIZE);
        }
        for (int many : new int[] {1, 2, 4, 6, 40}) {
            twins.found("judged of " + many, rowOf(many, 0), x -> x.judged(0, 0, 0), SIZE);
        }
        twins.found("judged of none", RICH, x -> x.judged(3, 0, 0), SIZE);
    }
}
