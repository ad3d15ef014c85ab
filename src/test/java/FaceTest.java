import java.lang.reflect.Constructor;
import java.lang.reflect.Field;
import java.lang.reflect.Method;
import java.lang.reflect.Modifier;
import java.util.Arrays;
import java.util.Set;
import java.util.TreeSet;

/** The public face: just the document's constants, constructor and methods; and promise 1. */
public final class FaceTest {
    private static final Due due = new Due();

    public static void main(String[] args) {
        constants();
        members();
        newObject();
        due.end();
    }

    private static void constants() {
        due.is("BAD", AbsentBells.BAD, -1);
        due.is("STATE", AbsentBells.STATE, -2);
        due.is("FULL", AbsentBells.FULL, -3);
        due.is("NONE", AbsentBells.NONE, -9);
        due.is("NO", AbsentBells.NO, -1000000);
    }

    private static void members() {
        Set<String> wanted = new TreeSet<>(Arrays.asList(
            "int type(int)", "int clear()", "int town()", "int person(int,int)", "int duty(int,int)", "int now(int)",
            "int goes(int,int)", "int passes(int)", "int excuses(int,int)", "int swaps(int,int)", "int undo()",
            "int rings(int)", "int chord(int,int)", "int silence(int)", "int least(int,int)",
            "int hears(int,int,int)", "int forget()", "int can(int)", "int tells(int,int,int)",
            "int odds(int,int,int,int)", "int rate(int,int)", "int keep(int)", "int back(int)", "int count(int)",
            "long trace()"));
        Set<String> found = new TreeSet<>();
        Set<String> names = new TreeSet<>();
        for (Method method : AbsentBells.class.getDeclaredMethods()) {
            if (!Modifier.isPrivate(method.getModifiers())) {
                String parameters = String.join(",",
                    Arrays.stream(method.getParameterTypes()).map(Class::getName).toArray(String[]::new));
                found.add(method.getReturnType() + " " + method.getName() + "(" + parameters + ")");
                names.add(method.getName());
                due.is(method + " is public", method.getModifiers(), Modifier.PUBLIC);
            }
        }
        if (!found.equals(wanted)) {
            System.out.println("methods: " + found);
        }
        due.is("the face's methods are the document's", found.equals(wanted) ? 1 : 0, 1);
        fieldsAndConstructors();
        innerClasses(names);
    }

    private static void fieldsAndConstructors() {
        int modifiers = AbsentBells.class.getModifiers();
        due.is("public and final", Modifier.isPublic(modifiers) && Modifier.isFinal(modifiers) ? 1 : 0, 1);
        Set<String> fields = new TreeSet<>();
        for (Field field : AbsentBells.class.getDeclaredFields()) {
            if (!Modifier.isPrivate(field.getModifiers())) {
                fields.add(field.getName());
            }
        }
        due.is("visible fields " + fields, fields.equals(Set.of("BAD", "STATE", "FULL", "NONE", "NO")) ? 1 : 0, 1);
        Constructor<?>[] constructors = AbsentBells.class.getDeclaredConstructors();
        due.is("constructors", constructors.length, 1);
        due.is("constructor's parameters", constructors[0].getParameterCount(), 0);
    }

    private static void innerClasses(Set<String> publicNames) {
        for (Class<?> inner : AbsentBells.class.getDeclaredClasses()) {
            due.is(inner + " is static", Modifier.isStatic(inner.getModifiers()) ? 1 : 0, 1);
            due.is(inner + " is not public", Modifier.isPublic(inner.getModifiers()) ? 1 : 0, 0);
            due.is(inner + " has few fields", inner.getDeclaredFields().length <= 20 ? 1 : 0, 1);
            for (Method method : inner.getDeclaredMethods()) {
                due.is(method + " has a name of its own", publicNames.contains(method.getName()) ? 1 : 0, 0);
            }
        }
        due.is("few classes", AbsentBells.class.getDeclaredClasses().length <= 11 ? 1 : 0, 1);
    }

    private static void newObject() {
        AbsentBells bells = new AbsentBells();
        long[] counts = {2, 0, 0, 2, 3, 0, 0};
        for (int what = 0; what < counts.length; what++) {
            due.is("new: count(" + what + ")", bells.count(what), counts[what]);
        }
        long[] nows = {0, 0, 0, AbsentBells.NONE, AbsentBells.NONE, 0};
        for (int what = 0; what < nows.length; what++) {
            due.is("new: now(" + what + ")", bells.now(what), nows[what]);
        }
        due.is("new: trace()", bells.trace(), 0);
        due.is("new: undo()", bells.undo(), AbsentBells.STATE);
        due.is("new: back(0)", bells.back(0), AbsentBells.STATE);
        due.is("new: back(1)", bells.back(1), AbsentBells.STATE);
        due.is("new: clear()", bells.clear(), 0);
        due.is("new: forget()", bells.forget(), 0);
        due.is("new: person(0, 0)", bells.person(0, 0), AbsentBells.BAD);
        due.is("new: duty(0, 0)", bells.duty(0, 0), AbsentBells.BAD);
        due.is("new: rate(0, 0)", bells.rate(0, 0), AbsentBells.NO);
        due.is("new: can(0)", bells.can(0), AbsentBells.BAD);
        due.is("new: town()", bells.town(), 0);
    }
}
