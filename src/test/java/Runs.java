/** Short ways to bring a new object to where a test begins. */
final class Runs {
    private Runs() {
    }

    static void write(ShadeNames x, int t, String text) {
        x.text(t, text.length());
        for (int i = 0; i < text.length(); i++) {
            if (text.charAt(i) != ' ') {
                x.put(t, i, text.charAt(i));
            }
        }
    }

    static void fill(ShadeNames x, int r, int... places) {
        x.row(r, places.length);
        for (int i = 0; i < places.length; i++) {
            x.lay(r, i, places[i]);
        }
    }

    static ShadeNames with(String registry) {
        ShadeNames x = new ShadeNames();
        write(x, 0, registry);
        if (x.registry(0) < 1) {
            throw new IllegalStateException("a test's own registry has a fault: " + registry);
        }
        return x;
    }

    static int shade(int a, int b, int c) {
        return 36 * a + 6 * b + c;
    }
}
