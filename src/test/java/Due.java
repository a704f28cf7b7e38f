/** Counts the answers that are not as due, and tells each. */
final class Due {
    private final String title;
    private String part = "";
    private int asked;
    private int wrong;

    Due(String title) {
        this.title = title;
    }

    void part(String name) {
        part = name;
    }

    void is(String call, long got, long want) {
        asked++;
        if (got != want) {
            wrong++;
            System.out.println(part + ": " + call + " answered " + got + ", due is " + want);
        }
    }

    void holds(String what, boolean held) {
        is(what, held ? 1 : 0, 1);
    }

    void end() {
        System.out.println(title + ": " + asked + " answers, " + wrong + " not as due");
        if (wrong != 0 || asked == 0) {
            System.exit(1);
        }
    }
}
