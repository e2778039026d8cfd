import java.lang.reflect.Constructor;
import java.lang.reflect.Field;
import java.lang.reflect.Member;
import java.lang.reflect.Method;
import java.lang.reflect.Modifier;
import java.util.ArrayList;
import java.util.Arrays;
import java.util.Collections;
import java.util.HashSet;
import java.util.List;
import java.util.Set;

/** The class shows the document's face and nothing else (LANGUAGE.md, rule 1). */
public final class FaceTest {
    private static final String ARGUMENT = " IllegalArgumentException";
    private static final String BOTH = " IllegalArgumentException IllegalStateException";
    private static final List<String> DUE = List.of(
            "boolean out(int, int, boolean)" + BOTH,
            "int corner(int, int)" + BOTH,
            "int curve(int)" + ARGUMENT,
            "int gives(int, int, int)" + ARGUMENT,
            "int ground(int)" + BOTH,
            "int hour(int, int, int)" + BOTH,
            "int load(int, int)" + ARGUMENT,
            "int machine(int, int, int)" + BOTH,
            "int planned(int)" + ARGUMENT,
            "int ran(int)" + ARGUMENT,
            "int row(int, int, int, int)" + BOTH,
            "int run(int)" + ARGUMENT,
            "int starts(int)" + ARGUMENT,
            "long cost()",
            "long fall(int)" + ARGUMENT,
            "long told(int)" + ARGUMENT);

    public static void main(String[] args) {
        Checks checks = new Checks();
        int kind = HeatMachines.class.getModifiers();
        checks.is("public final class", Modifier.isPublic(kind) && Modifier.isFinal(kind), true);
        checks.is("NONE", HeatMachines.NONE, -1);
        checks.is("the public methods", publicMethods().toString(), DUE.toString());
        checks.is("visible fields", visible(HeatMachines.class.getDeclaredFields()).toString(), "[NONE]");
        Constructor<?>[] made = HeatMachines.class.getDeclaredConstructors();
        checks.is("constructors", made.length, 1);
        checks.is("its modifiers", made[0].toString(), "public HeatMachines()");
        checks.is("methods neither public nor private", halfHidden().toString(), "[]");
        checks.is("hidden methods with public names", namesTwice().toString(), "[]");
        checks.is("static fields that are not final", looseStatics().toString(), "[]");
        checks.end("FaceTest");
    }

    private static List<String> publicMethods() {
        List<String> found = new ArrayList<>();
        for (Method method : HeatMachines.class.getDeclaredMethods()) {
            if (Modifier.isPublic(method.getModifiers())) {
                found.add(faceOf(method));
            }
        }
        Collections.sort(found);
        return found;
    }

    private static String faceOf(Method method) {
        String parameters = Arrays.toString(method.getParameterTypes());
        StringBuilder face = new StringBuilder(method.getReturnType() + " " + method.getName()
                + "(" + parameters.substring(1, parameters.length() - 1) + ")");
        for (Class<?> thrown : method.getExceptionTypes()) {
            face.append(' ').append(thrown.getSimpleName());
        }
        return face.toString();
    }

    private static List<String> visible(Member[] members) {
        List<String> found = new ArrayList<>();
        for (Member member : members) {
            if (!Modifier.isPrivate(member.getModifiers())) {
                found.add(member.getName());
            }
        }
        return found;
    }

    private static List<String> halfHidden() {
        List<String> found = visible(HeatMachines.class.getDeclaredMethods());
        found.removeIf(name -> DUE.stream().anyMatch(face -> face.contains(" " + name + "(")));
        return found;
    }

    private static List<String> namesTwice() {
        Set<String> open = new HashSet<>();
        List<String> twice = new ArrayList<>();
        for (Method method : HeatMachines.class.getDeclaredMethods()) {
            if (Modifier.isPublic(method.getModifiers()) && !open.add(method.getName())) {
                twice.add(method.getName());
            }
        }
        List<Class<?>> all = new ArrayList<>(Arrays.asList(HeatMachines.class.getDeclaredClasses()));
        all.add(HeatMachines.class);
        for (Class<?> each : all) {
            for (Method method : each.getDeclaredMethods()) {
                if (!Modifier.isPublic(method.getModifiers()) && open.contains(method.getName())) {
                    twice.add(each.getSimpleName() + "." + method.getName());
                }
            }
        }
        return twice;
    }

    private static List<String> looseStatics() {
        List<Class<?>> all = new ArrayList<>(Arrays.asList(HeatMachines.class.getDeclaredClasses()));
        all.add(HeatMachines.class);
        List<String> found = new ArrayList<>();
        for (Class<?> each : all) {
            for (Field field : each.getDeclaredFields()) {
                int kind = field.getModifiers();
                if (Modifier.isStatic(kind) && !Modifier.isFinal(kind)) {
                    found.add(field.getName());
                }
            }
        }
        return found;
    }
}
