/** Short ways to bring a new object to where a test begins. */
final class Runs {
    private Runs() {
    }

    static void write(ShadeNames x, int t, String text) {
        x.text(t, text.length());
        for (int i = 0; i < text.length(); i++) {
            if (text.charAt(i) != ' ') {
                x.put(t, i, text.charAt(i));
            }
        }
    }

    static void fill(ShadeNames x, int r, int... places) {
        x.row(r, places.length);
        for (int i = 0; i < places.length; i++) {
            x.lay(r, i, places[i]);
        }
    }

    static ShadeNames with(String registry) {
        ShadeNames x = new ShadeNames();
        write(x, 0, registry);
        if (x.registry(0) < 1) {
            throw new IllegalStateException("a test's own registry has a fault: " + registry);
        }
        return x;
    }

    static int shade(int a, int b, int c) {
        return 36 * a + 6 * b + c;
    }

    /** A name as it stands in a text. */
    static String item(char letter, int shade, int range, int owner, int due, int fades) {
        return "" + letter + shade / 36 + shade / 6 % 6 + shade % 6 + range + owner + due + fades;
    }

    /**
     * Names 0 to 5 of every kind, 6 that was said, deeds 0 to 2, registries kept in 0 and 2, all rows
     * and texts; what was told before is 43 by asked(), some chances, the finding NOUGHT.
     */
    static ShadeNames rich() {
        ShadeNames x = with("n2222031w5551141 s0003270l4003191d1501320p1133050");
        x.year();
        if (x.say(2, shade(5, 0, 5), 1, 2) != 6) {
            throw new IllegalStateException("a test's own name can't be said");
        }
        x.keep(0);
        x.due(0, 8);
        x.year();
        x.keep(2);
        x.due(6, 6);
        fill(x, 0, 0, 86, 215, 43);
        fill(x, 1, 2, 5, 9);
        fill(x, 2, 0, 3, 1, 0, 215, 0);
        x.row(3, 0);
        x.row(4, 40);
        fill(x, 5, -7);
        x.text(1, 0);
        x.text(2, 80);
        write(x, 3, "n000000 ");
        x.mean(3);
        x.odds(3);
        x.at(0, 3);
        return x;
    }
}
