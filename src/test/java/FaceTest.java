import java.lang.reflect.Constructor;
import java.lang.reflect.Field;
import java.lang.reflect.Method;
import java.lang.reflect.Modifier;
import java.util.Arrays;
import java.util.List;
import java.util.Set;
import java.util.TreeSet;

/** The public face is the document's, and nothing else of the class can be seen (LANGUAGE.md, rule 1). */
public final class FaceTest {
    private static final List<String> CONSTANTS = List.of("BAD", "FULL", "FINDING", "STATE", "SPENT", "NONE");

    /** Each call with how many ints it takes; these three answer a long. */
    private static final String CALLS = "row2 lay3 at2 tear1 copy5 mean1 text2 put3 fault1 registry1 name2 mark2 due2 "
            + "say4 year0 undo1 keep1 on1 apart2 called1 owes2 disputed0 free0 gap2 lives2 cover2 best2 mix2 cheap2 "
            + "eyes1 show1 judged3 lost1 moves1 was2 kinds2 odds1 mid1 lots3 asked0 upper0 lower0 count1 finding0 "
            + "findings1 digest0";
    private static final List<String> LONG = List.of("upper", "lower", "digest");

    private static final Due due = new Due("face");

    public static void main(String[] args) throws Exception {
        theClass();
        constants();
        fields();
        calls();
        nested();
        due.end();
    }

    private static void theClass() {
        due.part("the class");
        due.holds("public", Modifier.isPublic(ShadeNames.class.getModifiers()));
        due.holds("final", Modifier.isFinal(ShadeNames.class.getModifiers()));
        due.holds("without a package", ShadeNames.class.getPackageName().isEmpty());
        Constructor<?>[] all = ShadeNames.class.getDeclaredConstructors();
        due.is("constructors", all.length, 1);
        due.is("its parameters", all[0].getParameterCount(), 0);
        due.holds("is public", Modifier.isPublic(all[0].getModifiers()));
    }

    private static void constants() throws Exception {
        due.part("the constants");
        int[] want = {-1, -2, -3, -4, -6, -9};
        for (int i = 0; i < want.length; i++) {
            Field constant = ShadeNames.class.getDeclaredField(CONSTANTS.get(i));
            due.holds(constant.getName() + " is an int", constant.getType() == int.class);
            due.is(constant.getName(), constant.getInt(null), want[i]);
        }
    }

    private static void fields() {
        due.part("the fields");
        for (Field field : ShadeNames.class.getDeclaredFields()) {
            int is = field.getModifiers();
            boolean shown = CONSTANTS.contains(field.getName());
            due.holds(field + (shown ? " is public" : " is private"),
                    shown ? Modifier.isPublic(is) : Modifier.isPrivate(is));
            due.holds(field + " is final, if it is static", !Modifier.isStatic(is) || Modifier.isFinal(is));
        }
    }

    private static void calls() {
        due.part("the calls");
        Set<String> want = new TreeSet<>(Arrays.asList(CALLS.split(" ")));
        Set<String> got = new TreeSet<>();
        Set<String> hidden = new TreeSet<>();
        Set<String> names = new TreeSet<>();
        for (Method method : ShadeNames.class.getDeclaredMethods()) {
            if (!Modifier.isPublic(method.getModifiers())) {
                due.holds(method + " is private", Modifier.isPrivate(method.getModifiers()));
                hidden.add(method.getName());
                continue;
            }
            names.add(method.getName());
            got.add(method.getName() + method.getParameterCount());
            due.holds(method + " is no static one", !Modifier.isStatic(method.getModifiers()));
            due.holds(method + " answers what it should",
                    method.getReturnType() == (LONG.contains(method.getName()) ? long.class : int.class));
            for (Class<?> type : method.getParameterTypes()) {
                due.holds(method + " takes ints", type == int.class);
            }
        }
        due.holds("they are " + want + ", not " + got, got.equals(want));
        hidden.retainAll(names);
        due.holds("private ones with a call's name: " + hidden, hidden.isEmpty());
    }

    private static void nested() {
        due.part("the classes inside");
        Class<?>[] all = ShadeNames.class.getDeclaredClasses();
        due.holds("some twelve", all.length <= 12);
        for (Class<?> one : all) {
            due.holds(one + " is static", Modifier.isStatic(one.getModifiers()));
            due.holds(one + " is hidden", !Modifier.isPublic(one.getModifiers())
                    && !Modifier.isProtected(one.getModifiers()));
            int fields = 0;
            for (Field field : one.getDeclaredFields()) {
                if (Modifier.isStatic(field.getModifiers())) {
                    due.holds(field + " is final", Modifier.isFinal(field.getModifiers()));
                } else {
                    fields++;
                }
            }
            due.holds(one + " has some twenty fields at most", fields <= 20);
        }
    }
}
