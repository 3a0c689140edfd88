import java.lang.reflect.Constructor;
import java.lang.reflect.Field;
import java.lang.reflect.Member;
import java.lang.reflect.Method;
import java.lang.reflect.Modifier;
import java.util.Arrays;
import java.util.Set;
import java.util.TreeSet;

/** The class shows the face of the document and nothing else (rules 1 and 5 of LANGUAGE.md). */
public final class FaceTest {
    private static final Set<String> FACE = new TreeSet<>(Arrays.asList(
            "public static final int HistoryJudge.NONE",
            "public HistoryJudge()",
            "public int HistoryJudge.write(int,int) throws java.lang.IllegalArgumentException,"
                    + "java.lang.IllegalStateException,java.lang.UnsupportedOperationException",
            "public int HistoryJudge.read(int,int,int) throws java.lang.IllegalArgumentException,"
                    + "java.util.NoSuchElementException,java.lang.IllegalStateException,"
                    + "java.lang.UnsupportedOperationException",
            "public void HistoryJudge.end(int,boolean) throws java.lang.IllegalArgumentException,"
                    + "java.lang.IllegalStateException",
            "public int HistoryJudge.state(int)",
            "public int HistoryJudge.version(int,int)",
            "public boolean HistoryJudge.exchange(int,int)",
            "public int HistoryJudge.edges(int,int)",
            "public int HistoryJudge.flaws()",
            "public int HistoryJudge.level()",
            "public int HistoryJudge.cycle(int)",
            "public int HistoryJudge.step(int,int)",
            "public boolean HistoryJudge.serial()",
            "public int HistoryJudge.place(int)",
            "public int HistoryJudge.beginnings()",
            "public int HistoryJudge.clear()"));

    private static int wrong = 0;

    private static void fault(String text) {
        wrong++;
        System.out.println(text);
    }

    private static void keepVisible(Set<String> found, Member member) {
        if (!Modifier.isPrivate(member.getModifiers())) {
            found.add(member.toString());
        }
    }

    private static Set<String> visibleMembers() {
        Set<String> found = new TreeSet<>();
        for (Field f : HistoryJudge.class.getDeclaredFields()) {
            keepVisible(found, f);
        }
        for (Constructor<?> c : HistoryJudge.class.getDeclaredConstructors()) {
            keepVisible(found, c);
        }
        for (Method m : HistoryJudge.class.getDeclaredMethods()) {
            keepVisible(found, m);
        }
        return found;
    }

    private static Set<String> publicNames() {
        Set<String> names = new TreeSet<>();
        for (Method m : HistoryJudge.class.getMethods()) {
            if (m.getDeclaringClass() == HistoryJudge.class) {
                names.add(m.getName());
            }
        }
        return names;
    }

    private static void checkPrivateNames(Class<?> type) {
        Set<String> names = publicNames();
        for (Method m : type.getDeclaredMethods()) {
            if (!Modifier.isPublic(m.getModifiers()) && names.contains(m.getName())) {
                fault("a method of one's own bears the name of a public one: " + m);
            }
        }
    }

    private static void checkStatics(Class<?> type) {
        for (Field f : type.getDeclaredFields()) {
            if (Modifier.isStatic(f.getModifiers()) && !Modifier.isFinal(f.getModifiers())) {
                fault("a static field that is not final: " + f);
            }
        }
    }

    public static void main(String[] args) {
        if (HistoryJudge.class.getModifiers() != (Modifier.PUBLIC | Modifier.FINAL)) {
            fault("the class is not public and final");
        }
        Set<String> found = visibleMembers();
        if (!found.equals(FACE)) {
            fault("the face is " + found + ", due is " + FACE);
        }
        checkPrivateNames(HistoryJudge.class);
        checkStatics(HistoryJudge.class);
        for (Class<?> inside : HistoryJudge.class.getDeclaredClasses()) {
            if (!Modifier.isStatic(inside.getModifiers())
                    || Modifier.isPublic(inside.getModifiers())
                    || Modifier.isProtected(inside.getModifiers())) {
                fault("a class inside is not static or shows too much: " + inside);
            }
            checkPrivateNames(inside);
            checkStatics(inside);
        }
        System.out.println(wrong == 0 ? "the face is as due" : wrong + " faults");
        if (wrong != 0) {
            System.exit(1);
        }
    }
}
