import java.lang.reflect.Constructor;
import java.lang.reflect.Field;
import java.lang.reflect.Method;
import java.lang.reflect.Modifier;
import java.util.Arrays;
import java.util.HashSet;
import java.util.Set;
import java.util.TreeSet;

/** The public face is the document's, and nothing else of the class can be seen from outside. */
public final class FaceTest {
    private static final String[] FACE = {
        "append(int)", "clearText()", "errorPosition()", "load()", "about(int)", "cell(int,int,int)", "says(int)",
        "whySilent(int)", "share(int)", "serviceAt(int,int)", "lastCut(int)", "drive(int)", "cut(int,int)", "start()",
        "service(int,int)", "forget(int,int)", "setStep(int)", "replace(int)", "undo()", "afterCut(int,int)",
        "worstLoss()", "lasts(int)", "dueIn(int,int,int)", "dueFirst()", "runScript(int,long)", "simulate(long,int)",
        "save(int)", "restore(int)"
    };

    private static String told(Method m) {
        StringBuilder s = new StringBuilder(m.getName()).append('(');
        for (Class<?> type : m.getParameterTypes()) {
            s.append(s.charAt(s.length() - 1) == '(' ? "" : ",").append(type.getName());
        }
        return s.append(')').toString();
    }

    public static void main(String[] args) {
        Class<?> ring = OdometerRing.class;
        Due.due("modifiers of the class", ring.getModifiers(), Modifier.PUBLIC | Modifier.FINAL);
        Set<String> open = new TreeSet<>();
        Set<String> names = new HashSet<>();
        for (Method m : ring.getDeclaredMethods()) {
            if (!Modifier.isPrivate(m.getModifiers()) && !m.isSynthetic()) {
                open.add(told(m));
                names.add(m.getName());
                Due.due("modifiers of " + m, m.getModifiers(), Modifier.PUBLIC);
                Due.dueText("type of " + m, m.getReturnType().getName(), "int");
            }
        }
        Due.dueText("methods", open.toString(), new TreeSet<>(Arrays.asList(FACE)).toString());
        for (Method m : ring.getDeclaredMethods()) {
            Due.due("hidden " + m, Modifier.isPrivate(m.getModifiers()) && names.contains(m.getName()) ? 1 : 0, 0);
        }
        for (Field f : ring.getDeclaredFields()) {
            if (!Modifier.isPrivate(f.getModifiers())) {
                Due.dueText("field", f.toString(), "public static final int OdometerRing.NONE");
            }
        }
        Due.due("NONE", OdometerRing.NONE, -99999);
        Constructor<?>[] all = ring.getDeclaredConstructors();
        Due.due("constructors", all.length, 1);
        Due.dueText("constructor", all[0].toString(), "public OdometerRing()");
        for (Class<?> inside : ring.getDeclaredClasses()) {
            int how = inside.getModifiers();
            Due.due("how open " + inside, how & (Modifier.PUBLIC | Modifier.PROTECTED), 0);
            Due.due("static " + inside, how & Modifier.STATIC, Modifier.STATIC);
        }
        Due.finish();
    }
}
