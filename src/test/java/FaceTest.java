import java.lang.reflect.Constructor;
import java.lang.reflect.Field;
import java.lang.reflect.Method;
import java.lang.reflect.Modifier;
import java.util.Arrays;
import java.util.NoSuchElementException;
import java.util.Set;
import java.util.TreeSet;

/** The public face as the document gives it, and the rules of LANGUAGE.md that reflection can see. */
public final class FaceTest {
    private static final String[] FACE = {
        "int feed(int,int,int,int,int)", "int text(int)", "int count(int)", "int loan(int,int)", "int cash(int)",
        "int held(int,int,int)", "int bond(int,int,int)", "int standing(int,int,int)", "int price(int,int)", "int year()",
        "int claim(int,int)", "boolean sell(int,int,int,int)", "int put(int,int)", "int priced(int,int,int)",
        "int wheel(int,int)", "int undo()", "boolean image(int,boolean)", "int row(int,int,int)", "long toPay(int)",
        "long odds(int,int)", "long worth(int,int)", "long life(int)", "int half(int)", "int yields(int,int)",
        "long atLeast(int,int,int)", "long lasting(int,int)", "long below()", "int ifPrice(int,int,int,int)",
        "int needs(int,int)", "int lot(int,int,int)", "int replayed(int,int,int)", "int lastOne(int,int)",
        "long mean(int)", "int unlucky(int)", "long paid(int,int)"};

    public static void main(String[] args) throws Exception {
        Class<DrawnBonds> c = DrawnBonds.class;
        Check.due("public and final", c.getModifiers(), Modifier.PUBLIC | Modifier.FINAL);
        Check.due("NONE", DrawnBonds.NONE, -1);
        Set<String> found = new TreeSet<>();
        Set<String> names = new TreeSet<>();
        for (Method m : c.getDeclaredMethods()) {
            if (!Modifier.isPrivate(m.getModifiers())) {
                Check.due(m + " is public alone", m.getModifiers(), Modifier.PUBLIC);
                String args1 = Arrays.toString(m.getParameterTypes()).replace(" ", "");
                found.add(m.getReturnType() + " " + m.getName() + "(" + args1.substring(1, args1.length() - 1) + ")");
                names.add(m.getName());
                Class<?>[] declared = m.getName().equals("loan") ? new Class<?>[] {NoSuchElementException.class} : new Class<?>[0];
                Check.due(m + " declares " + declared.length, Arrays.equals(m.getExceptionTypes(), declared), true);
            }
        }
        Set<String> want = new TreeSet<>(Arrays.asList(FACE));
        Check.due("methods " + found, found.equals(want), true);
        for (Field f : c.getDeclaredFields()) {
            Check.due(f + " is private, or NONE", Modifier.isPrivate(f.getModifiers()) || f.getName().equals("NONE"), true);
        }
        Constructor<?>[] made = c.getDeclaredConstructors();
        Check.due("constructors", made.length, 1);
        Check.due("public", made[0].getModifiers(), Modifier.PUBLIC);
        Check.due("without arguments", made[0].getParameterCount(), 0);
        classes(c, names);
        Check.end();
    }

    private static void classes(Class<?> c, Set<String> names) {
        Check.due("at most some twelve classes", c.getDeclaredClasses().length <= 12, true);
        for (Class<?> inside : c.getDeclaredClasses()) {
            Check.due(inside + " is static", Modifier.isStatic(inside.getModifiers()), true);
            Check.due(inside + " is not public", Modifier.isPublic(inside.getModifiers()), false);
            ofOne(inside, names);
        }
        for (Method m : c.getDeclaredMethods()) {
            Check.due(m + " of a name of its own", Modifier.isPublic(m.getModifiers()) || !names.contains(m.getName()), true);
            Check.due(m + " has at most seven parameters", m.getParameterCount() <= 7, true);
        }
    }

    private static void ofOne(Class<?> inside, Set<String> names) {
        for (Method m : inside.getDeclaredMethods()) {
            Check.due(m + " of a name of its own", names.contains(m.getName()), false);
            Check.due(m + " has at most seven parameters", m.getParameterCount() <= 7, true);
        }
        long fields = Arrays.stream(inside.getDeclaredFields()).filter(f -> !Modifier.isStatic(f.getModifiers())).count();
        Check.due(inside + " has some twenty fields at most", fields <= 20, true);
        for (Field f : inside.getDeclaredFields()) {
            Check.due(f + " is no static state", !Modifier.isStatic(f.getModifiers()) || Modifier.isFinal(f.getModifiers()), true);
        }
    }
}
