import java.lang.reflect.Constructor;
import java.lang.reflect.Field;
import java.lang.reflect.Method;
import java.lang.reflect.Modifier;
import java.util.Set;
import java.util.TreeSet;

/** The public face: the document's members and no others. */
public final class FaceTest {
    private static final String[] METHODS = {
        "place 2", "walk 3", "way 2", "rain 2",
        "sell 2", "enter 2", "go 2", "leave 1", "party 2", "heads 1", "minutes 1",
        "lamp 1", "fuse 3", "light 2", "burns 1", "dark 0", "spent 0", "best 1",
        "box 2", "let 2", "rise 1", "in 1", "ham 1", "rule 2", "order 2",
        "feed 2", "price 2", "inForce 3", "gives 3",
        "close 0", "night 2", "foretold 1", "stolen 2", "near 1", "doubt 1", "count 1"};
    private static final String[] CONSTANTS = {"BAD", "NOT", "FULL", "NO_WAY", "FORGED", "VOID"};

    public static void main(String[] args) {
        Check check = new Check();
        Class<?> face = PleasureGarden.class;
        check.due("modifiers", face.getModifiers(), Modifier.PUBLIC | Modifier.FINAL);

        Set<String> found = new TreeSet<>();
        for (Method m : face.getDeclaredMethods()) {
            if (!Modifier.isPrivate(m.getModifiers())) {
                found.add(m.getName() + " " + m.getParameterCount());
                check.due(m.getName() + " is public", m.getModifiers(), Modifier.PUBLIC);
                check.due(m.getName() + " answers int", m.getReturnType() == int.class ? 1 : 0, 1);
            }
        }
        same(check, "methods", found, METHODS);

        Set<String> constants = new TreeSet<>();
        for (Field f : face.getDeclaredFields()) {
            if (!Modifier.isPrivate(f.getModifiers())) {
                constants.add(f.getName());
                check.due(f.getName(), f.getModifiers(), Modifier.PUBLIC | Modifier.STATIC | Modifier.FINAL);
            }
        }
        same(check, "constants", constants, CONSTANTS);

        Constructor<?>[] constructors = face.getDeclaredConstructors();
        check.due("constructors", constructors.length, 1);
        check.due("constructor's parameters", constructors[0].getParameterCount(), 0);
        check.due("constructor", constructors[0].getModifiers(), Modifier.PUBLIC);

        for (Method m : face.getDeclaredMethods()) {
            boolean hidden = Modifier.isPrivate(m.getModifiers());
            boolean named = hidden && found.stream().anyMatch(f -> f.startsWith(m.getName() + " "));
            check.due("private " + m.getName() + " bears a public name", named ? 1 : 0, 0);
        }
        check.finish();
    }

    private static void same(Check check, String what, Set<String> found, String[] due) {
        Set<String> want = new TreeSet<>(Set.of(due));
        check.due(what + " " + found + " are " + want, found.equals(want) ? 1 : 0, 1);
    }
}
