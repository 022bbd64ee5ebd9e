import java.lang.reflect.Constructor;
import java.lang.reflect.Field;
import java.lang.reflect.Method;
import java.lang.reflect.Modifier;
import java.util.Arrays;
import java.util.TreeSet;

/** The class shows the document's face and nothing else. */
public final class FaceTest {
    private static final String[] FACE = {
        "boolean active(int,int)",
        "boolean write(char)",
        "int compile() IllegalStateException",
        "int configurations()",
        "int count(int)",
        "int current(int,int)",
        "int event(int) IllegalStateException IllegalArgumentException",
        "int line() IllegalArgumentException IllegalStateException",
        "int named() NoSuchElementException",
        "int next(int,int) NoSuchElementException",
        "int noted()",
        "int trace(int,int,int)",
    };

    public static void main(String[] args) {
        TreeSet<String> seen = new TreeSet<>();
        TreeSet<String> names = new TreeSet<>();
        for (Method method : ChartTable.class.getDeclaredMethods()) {
            if (!Modifier.isPrivate(method.getModifiers())) {
                Probe.due(method + " is public", Modifier.isPublic(method.getModifiers()), true);
                seen.add(signatureOf(method));
                names.add(method.getName());
            }
        }
        Probe.due("methods", seen.toString(), new TreeSet<>(Arrays.asList(FACE)).toString());
        for (Field field : ChartTable.class.getDeclaredFields()) {
            Probe.due(field + " is private", Modifier.isPrivate(field.getModifiers()), true);
        }
        Constructor<?>[] constructors = ChartTable.class.getDeclaredConstructors();
        Probe.due("constructors", constructors.length, 1);
        Probe.due("constructor's parameters", constructors[0].getParameterCount(), 0);
        Probe.due("constructor is public", Modifier.isPublic(constructors[0].getModifiers()), true);
        Probe.due("class is final", Modifier.isFinal(ChartTable.class.getModifiers()), true);
        for (Class<?> inside : ChartTable.class.getDeclaredClasses()) {
            Probe.due(inside + " is static", Modifier.isStatic(inside.getModifiers()), true);
            for (Method method : inside.getDeclaredMethods()) {
                Probe.due(method + " bears a name of the face", names.contains(method.getName()), false);
            }
        }
        Probe.end();
    }

    private static String signatureOf(Method method) {
        StringBuilder text = new StringBuilder();
        text.append(method.getReturnType().getSimpleName()).append(' ').append(method.getName()).append('(');
        for (int i = 0; i < method.getParameterCount(); i++) {
            text.append(i == 0 ? "" : ",").append(method.getParameterTypes()[i].getSimpleName());
        }
        text.append(')');
        for (Class<?> thrown : method.getExceptionTypes()) {
            text.append(' ').append(thrown.getSimpleName());
        }
        return text.toString();
    }
}
