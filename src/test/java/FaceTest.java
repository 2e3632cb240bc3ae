import java.lang.reflect.Constructor;
import java.lang.reflect.Field;
import java.lang.reflect.Method;
import java.lang.reflect.Modifier;
import java.util.Set;
import java.util.TreeSet;

/** The public face is the document's and nothing besides (LANGUAGE.md, rules 1 and 5). */
public final class FaceTest {
    private static final String[] METHODS = {
        "int feed(int,int,int,int,int)", "boolean end(int)", "int fault()", "int text()",
        "int step(int,int,int)", "boolean set(int,int)", "boolean goats(int,int)",
        "boolean echo(int,int,int)", "void wind(long)", "int add(int,boolean)", "int act(int)",
        "int run(int)", "int undo()", "int rope(int,int)", "long number()", "int told(int)",
        "int done(int,int)", "boolean two(int,boolean)", "boolean fog(int,boolean)", "int bell(int)",
        "int miss(int,int)", "long span(int,int,int)", "int astray(int,int,int)", "int harvest(int)",
        "int fewest(int)", "int added(int)", "int near()", "long product(int,int,int,int)",
        "int rival(int,int)", "int all(int,int,int)", "long tried(int,int)", "int needs(int,int)",
        "int cheaper(int)", "int standing(int,int,int)", "int as(int,int)", "int guess(int)",
        "int safest(int,int)", "int confused()", "int kids(int)", "int herd(int)",
        "int relay(int,int,int)", "int ranked(int,int)", "int odds(int)", "int make(int,int)",
        "int image()", "int back()", "int count(int)"
    };

    private static String told(Method m) {
        StringBuilder s = new StringBuilder(m.getReturnType() + " " + m.getName() + "(");
        for (int i = 0; i < m.getParameterCount(); i++) {
            s.append(i == 0 ? "" : ",").append(m.getParameterTypes()[i]);
        }
        return s.append(")").toString();
    }

    public static void main(String[] args) {
        Due due = new Due("FaceTest");
        Set<String> wanted = new TreeSet<>(Set.of(METHODS));
        Set<String> names = new TreeSet<>();
        for (Method m : GoatAbacus.class.getDeclaredMethods()) {
            if (Modifier.isPublic(m.getModifiers())) {
                due.is("face has " + told(m), wanted.remove(told(m)), true);
                due.is("not static " + told(m), Modifier.isStatic(m.getModifiers()), false);
                names.add(m.getName());
            }
        }
        due.is("missing " + wanted, wanted.size(), 0);
        for (Method m : GoatAbacus.class.getDeclaredMethods()) {
            if (!Modifier.isPublic(m.getModifiers())) {
                due.is("private: " + m, Modifier.isPrivate(m.getModifiers()) || m.isSynthetic(), true);
                due.is("name of its own: " + m, names.contains(m.getName()), false);
            }
        }
        for (Field f : GoatAbacus.class.getDeclaredFields()) {
            boolean constant = f.getName().equals("NONE") || f.getName().equals("HIDDEN");
            due.is("field " + f, Modifier.isPublic(f.getModifiers()), constant);
            due.is("hidden " + f, Modifier.isPrivate(f.getModifiers()), !constant);
            due.is("final if static " + f,
                    !Modifier.isStatic(f.getModifiers()) || Modifier.isFinal(f.getModifiers()), true);
        }
        Constructor<?>[] all = GoatAbacus.class.getDeclaredConstructors();
        due.is("constructors", all.length, 1);
        due.is("public constructor", Modifier.isPublic(all[0].getModifiers()), true);
        due.is("final class", Modifier.isFinal(GoatAbacus.class.getModifiers()), true);
        due.is("classes inside", GoatAbacus.class.getDeclaredClasses().length <= 12, true);
        due.is("NONE", GoatAbacus.NONE, -1);
        due.is("HIDDEN", GoatAbacus.HIDDEN, -2);
        due.close();
    }
}
