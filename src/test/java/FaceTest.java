import java.lang.reflect.Constructor;
import java.lang.reflect.Field;
import java.lang.reflect.Method;
import java.lang.reflect.Modifier;
import java.util.Set;
import java.util.TreeSet;

/** The public face of the document, and that nothing else can be seen from outside. */
public final class FaceTest {
    private static final String[] METHODS = {
        "int account(int,int)", "int tick(int)", "int event(long,int,int,int,int)", "int limit(int,int,int)",
        "int request(int,int,int)", "int settle(int,int,long)", "int drop(int)", "int mode(int,int,int,int)",
        "int tier(int,int,int,long,int,int)", "int tiers(int,int,int)", "long cost(int,int,long)",
        "int terms(int,int,long,int)", "int credit(int,long,int)", "int close(int)", "long used(int,int,int)",
        "int held(int,int)", "int room(int,int)", "int hold(int,int)", "long line(int,int,int)",
        "long invoice(int,int)", "long left(int,int)", "int count(int)", "int closed(int)"
    };

    public static void main(String[] args) {
        constants();
        methods();
        members();
        nestedClasses();
        Check.end();
    }

    private static void constants() {
        Check.due("NONE", -1, QuotaMeter.NONE);
        Check.due("BAD", -2, QuotaMeter.BAD);
        Check.due("FULL", -3, QuotaMeter.FULL);
        Check.due("EARLY", -4, QuotaMeter.EARLY);
        Check.due("LATE", -5, QuotaMeter.LATE);
        Check.due("DUPLICATE", -6, QuotaMeter.DUPLICATE);
        Check.due("REFUSED", -7, QuotaMeter.REFUSED);
    }

    private static void methods() {
        Set<String> seen = new TreeSet<>();
        Set<String> publicNames = new TreeSet<>();
        for (Method m : QuotaMeter.class.getDeclaredMethods()) {
            if (Modifier.isPublic(m.getModifiers())) {
                seen.add(written(m));
                publicNames.add(m.getName());
            }
        }
        Check.due("public methods " + seen, 1, seen.equals(Set.of(METHODS)) ? 1 : 0);
        for (Method m : QuotaMeter.class.getDeclaredMethods()) {
            boolean isPublic = Modifier.isPublic(m.getModifiers());
            Check.holds(m + " is public or private", isPublic || Modifier.isPrivate(m.getModifiers()));
            Check.holds(m + " has a name of its own", isPublic || !publicNames.contains(m.getName()));
            Check.holds(m + " has seven parameters at most", m.getParameterCount() <= 7);
        }
    }

    private static String written(Method m) {
        StringBuilder text = new StringBuilder(m.getReturnType() + " " + m.getName() + "(");
        for (Class<?> type : m.getParameterTypes()) {
            text.append(text.charAt(text.length() - 1) == '(' ? "" : ",").append(type);
        }
        return text.append(")").toString();
    }

    private static void members() {
        Set<String> constants = Set.of("NONE", "BAD", "FULL", "EARLY", "LATE", "DUPLICATE", "REFUSED");
        Check.due("modifiers of the class", Modifier.PUBLIC | Modifier.FINAL, QuotaMeter.class.getModifiers());
        for (Field f : QuotaMeter.class.getDeclaredFields()) {
            boolean isConstant = constants.contains(f.getName());
            Check.holds(f + " is hidden", isConstant || Modifier.isPrivate(f.getModifiers()));
            Check.holds(f + " is final if static", !Modifier.isStatic(f.getModifiers()) || Modifier.isFinal(f.getModifiers()));
        }
        Check.due("constructors", 1, QuotaMeter.class.getDeclaredConstructors().length);
        for (Constructor<?> c : QuotaMeter.class.getDeclaredConstructors()) {
            Check.holds("a public constructor without parameters", Modifier.isPublic(c.getModifiers()) && c.getParameterCount() == 0);
        }
    }

    private static void nestedClasses() {
        Check.holds("twelve classes at most", QuotaMeter.class.getDeclaredClasses().length < 12);
        for (Class<?> c : QuotaMeter.class.getDeclaredClasses()) {
            int modifiers = c.getModifiers();
            Check.holds(c + " is static", Modifier.isStatic(modifiers));
            Check.holds(c + " is hidden", !Modifier.isPublic(modifiers) && !Modifier.isProtected(modifiers));
        }
    }
}
