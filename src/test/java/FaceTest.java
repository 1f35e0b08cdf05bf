import java.lang.reflect.Constructor;
import java.lang.reflect.Field;
import java.lang.reflect.Method;
import java.lang.reflect.Modifier;
import java.util.ArrayList;
import java.util.Arrays;
import java.util.Collections;
import java.util.List;

/** The public face, name by name, and nothing else that is seen from outside (LANGUAGE.md, rule 1). */
public final class FaceTest {
    private static final Check CHECK = new Check("FaceTest");
    private static final String[] FACE = {
        "int feed(int,int,int,int,int)", "int text(int)", "int fault(int)", "int named(int,int)", "int guest(int,int)",
        "int fruit(int,int)", "long law(int,int,int)", "boolean seat(int,int)", "int bread(int,int)", "boolean wake(int)",
        "int go(int)", "int ahead(int,int,int)", "int swoon(int)", "int nextBite(int)", "int table(int)", "int hold()",
        "int calm()", "int bestFed(int)", "int rests(int,int)", "int rest(int,int,int)", "long warm(int,int)", "int bowl()",
        "int uppermost()", "int hungriest()", "int marked()", "int apart(int,int)", "int eatenIn(int)", "int loaf(int,int)",
        "int chain(int,int)", "int part(int,int)", "int rudest()", "int grace(int)", "int untouched()",
        "int see(int,int,int,boolean)", "int strike(int)", "boolean known(int)", "int sweets(int)", "int chance(int,int,int)",
        "int tried(int,int,int)", "int undo()", "int keep()", "int back()", "int count(int)"};

    private static final String GUEST_THROWS =
            "[class java.lang.IndexOutOfBoundsException, class java.util.NoSuchElementException]";

    private static String told(Method m) {
        List<String> types = new ArrayList<>();
        for (Class<?> type : m.getParameterTypes()) {
            types.add(type.getSimpleName());
        }
        return m.getReturnType().getSimpleName() + " " + m.getName() + "(" + String.join(",", types) + ")";
    }

    public static void main(String[] args) {
        List<String> open = new ArrayList<>();
        List<String> names = new ArrayList<>();
        for (Method m : WaxBowl.class.getDeclaredMethods()) {
            if (Modifier.isPublic(m.getModifiers())) {
                open.add(told(m));
                names.add(m.getName());
                CHECK.due(m + " is no static", Modifier.isStatic(m.getModifiers()), false);
                String thrown = m.getName().equals("guest") ? GUEST_THROWS : "[]";
                CHECK.due(m + " says what it throws", Arrays.toString(m.getExceptionTypes()).equals(thrown), true);
            }
        }
        List<String> due = new ArrayList<>(Arrays.asList(FACE));
        Collections.sort(due);
        Collections.sort(open);
        CHECK.due("the methods " + open, open.equals(due), true);
        for (Method m : WaxBowl.class.getDeclaredMethods()) {
            boolean isPublic = Modifier.isPublic(m.getModifiers());
            CHECK.due(m + " is private", isPublic || Modifier.isPrivate(m.getModifiers()), true);
            CHECK.due(m + " bears a name of its own", isPublic || !names.contains(m.getName()), true);
        }
        for (Class<?> inside : WaxBowl.class.getDeclaredClasses()) {
            CHECK.due(inside + " is static", Modifier.isStatic(inside.getModifiers()), true);
            CHECK.due(inside + " isn't public", Modifier.isPublic(inside.getModifiers()), false);
            for (Method m : inside.getDeclaredMethods()) {
                CHECK.due(m + " bears a name of its own", names.contains(m.getName()), false);
            }
        }
        for (Field f : WaxBowl.class.getDeclaredFields()) {
            boolean isNone = f.getName().equals("NONE");
            CHECK.due(f + " is private but for NONE", Modifier.isPrivate(f.getModifiers()), !isNone);
            CHECK.due(f + " is final if static", !Modifier.isStatic(f.getModifiers()) || Modifier.isFinal(f.getModifiers()), true);
        }
        Constructor<?>[] constructors = WaxBowl.class.getDeclaredConstructors();
        CHECK.due("one constructor", constructors.length, 1);
        CHECK.due("public, without parameters", Modifier.isPublic(constructors[0].getModifiers())
                && constructors[0].getParameterCount() == 0, true);
        CHECK.due("public and final", Modifier.isPublic(WaxBowl.class.getModifiers())
                && Modifier.isFinal(WaxBowl.class.getModifiers()), true);
        CHECK.end();
    }
}
