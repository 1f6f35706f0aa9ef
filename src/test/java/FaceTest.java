import java.lang.reflect.Constructor;
import java.lang.reflect.Field;
import java.lang.reflect.Method;
import java.lang.reflect.Modifier;
import java.util.Set;
import java.util.TreeSet;

/** The public face is the document's, and nothing else can be seen from outside. */
public final class FaceTest {
    private static final String[] METHODS = {
        "int feed(int,int,int,int,int)", "int house(int)", "int fault()", "int where()",
        "int entry(int,int)", "int meaning(int,int)", "int speaker(int,int)", "int saysIn(int,int,int)",
        "int uses(int,int)", "int pays(int,int)", "int lodgers()", "int debtors()", "int after(int)",
        "int outIn(int)", "int emptyIn()", "int pillar()", "int goWith(int)", "int keep(int)", "int dearest()",
        "int rings()", "int point()", "int depth(int)", "int fell()", "int roots(int)", "int circular(int)",
        "int apart(int,int)", "int twins()", "int chime(int,int)", "int families()", "int fits()",
        "int fitAt(int)", "int could()", "int surely()", "int ask()", "int askLeaves()", "int judge()",
        "int mends(int,boolean,boolean,boolean)", "int rests(int)", "int rest(int)", "long odds(int,boolean)",
        "long mean(int,boolean)", "long stays(int,boolean)", "int moody(int,int)", "int firstOut(int,int)",
        "int year()", "int moodyYear()", "int say(int,int)", "int evict(int)", "boolean take(int)",
        "boolean seed(int)", "boolean undo()", "int image()", "boolean back(int)", "int led(int)",
        "int size(int)", "int trouble()"};

    public static void main(String[] args) throws Exception {
        Check check = new Check();
        Set<String> want = new TreeSet<>();
        Set<String> names = new TreeSet<>();
        for (String m : METHODS) {
            want.add(m);
            names.add(m.substring(m.indexOf(' ') + 1, m.indexOf('(')));
        }
        Set<String> got = new TreeSet<>();
        for (Method m : WordHouse.class.getDeclaredMethods()) {
            if (m.isSynthetic()) continue;
            if (!Modifier.isPrivate(m.getModifiers())) {
                got.add(told(m));
                check.due(m + " is public and of the object",
                    Modifier.isPublic(m.getModifiers()) && !Modifier.isStatic(m.getModifiers()), true);
            } else {
                check.due(m + " bears a public name", names.contains(m.getName()), false);
            }
        }
        check.due("the methods " + got + " are the document's", got.equals(want), true);
        check.due("public and final", WordHouse.class.getModifiers(), Modifier.PUBLIC | Modifier.FINAL);
        Constructor<?>[] makers = WordHouse.class.getDeclaredConstructors();
        check.due("constructors", makers.length, 1);
        check.due("it is public, without parameters",
            Modifier.isPublic(makers[0].getModifiers()) && makers[0].getParameterCount() == 0, true);
        fields(check);
        classes(check, names);
        check.due("NONE", WordHouse.NONE, -1);
        check.end();
    }

    private static String told(Method m) {
        StringBuilder text = new StringBuilder(m.getReturnType().getName() + " " + m.getName() + "(");
        for (Class<?> type : m.getParameterTypes()) text.append(type.getName()).append(",");
        if (m.getParameterCount() > 0) text.setLength(text.length() - 1);
        return text.append(")").toString();
    }

    private static void fields(Check check) {
        for (Field f : WordHouse.class.getDeclaredFields()) {
            if (f.getName().equals("NONE")) continue;
            check.due(f + " is private", Modifier.isPrivate(f.getModifiers()), true);
            if (Modifier.isStatic(f.getModifiers())) {
                check.due(f + " is final", Modifier.isFinal(f.getModifiers()), true);
            }
        }
    }

    private static void classes(Check check, Set<String> names) {
        int count = 1;
        for (Class<?> inside : WordHouse.class.getDeclaredClasses()) {
            count++;
            int how = inside.getModifiers();
            check.due(inside + " is static and hidden",
                Modifier.isStatic(how) && !Modifier.isPublic(how) && !Modifier.isProtected(how), true);
            int own = 0;
            for (Field f : inside.getDeclaredFields()) {
                if (!Modifier.isStatic(f.getModifiers())) own++;
            }
            check.due(inside + " has some twenty fields", own <= 22, true);
            for (Method m : inside.getDeclaredMethods()) {
                check.due(m + " bears a public name", names.contains(m.getName()), false);
                check.due(m + " has few parameters", m.getParameterCount() <= 7, true);
            }
        }
        check.due("at most twelve classes", count <= 12, true);
    }
}
