import java.lang.reflect.Constructor;
import java.lang.reflect.Field;
import java.lang.reflect.Method;
import java.lang.reflect.Modifier;
import java.util.Set;
import java.util.TreeSet;

/** The public face is the document's, and nothing else can be seen from outside. */
public final class FaceTest {
    private static final String[] FACE = {
        "int print(int,long)", "int of(int,int)", "long marks(int,int)", "int set(int,int,int)",
        "int scratch(int,int,boolean)", "int look(int)", "int turn(int,int)", "int as(int,int)",
        "int slack(int)", "int ahead(int,int)", "int order(int,int)", "int alike(int,int)",
        "int slackFor(int,int)", "int came(int,int)", "int ring(int)", "int most(int)",
        "int best(int)", "int fewest(int)", "int alone(int)", "int orders(int)",
        "int ith(int,int)", "int falseDate(int)", "long had(int,int)", "long hadNot(int,int)",
        "int castOf(int)", "int deep(int)", "int tell()", "int kind(int)", "int pairs()",
        "int feed(int,int)", "int wipe()", "int text()", "int sheet(int,int,int)",
        "long write(int,int,long)", "int copy(int,int,int,int,int)", "int dates(int)",
        "int show(int)", "int read(int)", "int image()", "int undo()", "int tear()",
        "int count(int)", "int status(int)"
    };

    public static void main(String[] args) {
        Check check = new Check("FaceTest");
        Class<?> it = SealPrints.class;
        check.holds("public and final", Modifier.isPublic(it.getModifiers())
                && Modifier.isFinal(it.getModifiers()));
        Set<String> want = new TreeSet<>(Set.of(FACE));
        Set<String> got = new TreeSet<>();
        Set<String> names = new TreeSet<>();
        for (Method m : it.getDeclaredMethods()) {
            if (!Modifier.isPrivate(m.getModifiers())) {
                got.add(told(m));
                names.add(m.getName());
            }
        }
        for (String each : want) {
            check.holds(each + " is there", got.contains(each));
        }
        for (String each : got) {
            check.holds(each + " is in the document", want.contains(each));
        }
        Constructor<?>[] made = it.getDeclaredConstructors();
        check.holds("one public constructor without parameters", made.length == 1
                && Modifier.isPublic(made[0].getModifiers()) && made[0].getParameterCount() == 0);
        looksInside(check, it, names);
        for (Class<?> inner : it.getDeclaredClasses()) {
            check.holds(inner.getName() + " is static and not public",
                    Modifier.isStatic(inner.getModifiers())
                    && !Modifier.isPublic(inner.getModifiers()));
            for (Method m : inner.getDeclaredMethods()) {
                check.holds(m + " bears no public name", !names.contains(m.getName()));
            }
            staticFields(check, inner);
        }
        check.end();
    }

    private static void looksInside(Check check, Class<?> it, Set<String> names) {
        for (Field f : it.getDeclaredFields()) {
            check.holds(f.getName() + " is private", Modifier.isPrivate(f.getModifiers()));
        }
        staticFields(check, it);
        for (Method m : it.getDeclaredMethods()) {
            if (Modifier.isPrivate(m.getModifiers())) {
                check.holds(m + " bears no public name", !names.contains(m.getName()));
            }
            check.holds(m + " takes at most 7", m.getParameterCount() <= 7);
        }
    }

    private static void staticFields(Check check, Class<?> it) {
        for (Field f : it.getDeclaredFields()) {
            if (Modifier.isStatic(f.getModifiers())) {
                check.holds(f + " is final", Modifier.isFinal(f.getModifiers()));
            }
        }
    }

    private static String told(Method m) {
        StringBuilder told = new StringBuilder();
        told.append(m.getReturnType().getName()).append(' ').append(m.getName()).append('(');
        String between = "";
        for (Class<?> p : m.getParameterTypes()) {
            told.append(between).append(p.getName());
            between = ",";
        }
        return told.append(')').toString();
    }
}
