import java.lang.reflect.Field;
import java.lang.reflect.Member;
import java.lang.reflect.Method;
import java.lang.reflect.Modifier;
import java.util.ArrayList;
import java.util.Arrays;
import java.util.List;
import java.util.TreeSet;

/** The public face is the document's, and nothing else of the class can be seen. */
public final class FaceTest {
    private static final String[] METHODS = {
        "int card(int,int)", "int lay(int,int,int)", "int takeUp()", "int swap(int,int)", "int told(int,int)",
        "int feed(int)", "int text()", "int force(int)",
        "int round(int,int)", "int harvests()", "int best(int)",
        "int change(int,int)", "int anew(int,int,int)", "int hay(int,int)", "int layings(int)",
        "int tells(int,int)", "int film(int,int)", "int drawn(int)", "long chance(int,int,int)",
        "int image()", "int back()", "int count(int)",
        "int sheet(int,int,int)", "int cell(int,int,int)", "int copy(int,int,int,int,int)",
        "int cards(int,int,int,int)", "int taken(int,int)"
    };

    public static void main(String[] args) {
        Class<?> face = SevenInTheHay.class;
        Check.isTrue("public and final", face.getModifiers() == (Modifier.PUBLIC | Modifier.FINAL));
        Check.due("constructors", face.getDeclaredConstructors().length, 1);
        Check.due("public constructors", face.getConstructors().length, 1);
        Check.due("BAD", SevenInTheHay.BAD, -2);
        Check.due("NONE", SevenInTheHay.NONE, -1);
        Check.due("STATE", SevenInTheHay.STATE, -3);
        Check.due("FULL", SevenInTheHay.FULL, -4);
        Check.due("NO", SevenInTheHay.NO, -4611686018427387904L);
        constants(face);
        methods(face);
        for (Class<?> inner : face.getDeclaredClasses()) {
            int modifiers = inner.getModifiers();
            Check.isTrue(inner + " is static", Modifier.isStatic(modifiers));
            Check.isTrue(inner + " is hidden", !Modifier.isPublic(modifiers) && !Modifier.isProtected(modifiers));
        }
        Check.end();
    }

    private static boolean isSeen(Member member) {
        return !Modifier.isPrivate(member.getModifiers()) && !member.isSynthetic();
    }

    private static void constants(Class<?> face) {
        TreeSet<String> seen = new TreeSet<>();
        for (Field field : face.getDeclaredFields()) {
            boolean isStatic = Modifier.isStatic(field.getModifiers());
            Check.isTrue(field + " is final if static", !isStatic || Modifier.isFinal(field.getModifiers()));
            if (isSeen(field)) {
                Check.isTrue(field + " is public and static", Modifier.isPublic(field.getModifiers()) && isStatic);
                seen.add(field.getType() + " " + field.getName());
            }
        }
        Check.isTrue("constants: " + seen, seen.equals(new TreeSet<>(
            List.of("int NONE", "int BAD", "int STATE", "int FULL", "long NO"))));
    }

    private static void methods(Class<?> face) {
        List<String> due = new ArrayList<>(Arrays.asList(METHODS));
        List<String> names = new ArrayList<>();
        for (String method : METHODS) {
            names.add(method.substring(method.indexOf(' ') + 1, method.indexOf('(')));
        }
        for (Method method : face.getDeclaredMethods()) {
            if (!isSeen(method)) {
                Check.isTrue(method + " has a name of its own", !names.contains(method.getName()));
                continue;
            }
            StringBuilder types = new StringBuilder();
            for (Class<?> type : method.getParameterTypes()) {
                types.append(types.length() == 0 ? "" : ",").append(type);
            }
            String told = method.getReturnType() + " " + method.getName() + "(" + types + ")";
            Check.isTrue(told + " is of the face", due.remove(told));
            Check.due(told + " is public alone", method.getModifiers(), Modifier.PUBLIC);
        }
        Check.isTrue("all methods are there, but " + due, due.isEmpty());
        for (Class<?> inner : face.getDeclaredClasses()) {
            for (Method method : inner.getDeclaredMethods()) {
                Check.isTrue(method + " has a name of its own", !names.contains(method.getName()));
            }
        }
    }
}
