import java.lang.reflect.Constructor;
import java.lang.reflect.Field;
import java.lang.reflect.Method;
import java.lang.reflect.Modifier;
import java.util.Set;
import java.util.TreeSet;

/** The public face: all of it, and nothing beside it that is not private. */
public final class FaceTest {
    public static void main(String[] args) {
        Check check = new Check();
        Set<String> due = new TreeSet<>(Set.of(
            "NONE", "ConfigTexts()", "put(long,int)boolean", "load()int", "fault(int)int", "size(int)int",
            "partition(int,int)int", "process(int,int,int)int", "thing(int,int,int,int)int", "channel(int,int)int",
            "window(int,int)int"));
        Set<String> found = new TreeSet<>();
        for (Field field : ConfigTexts.class.getDeclaredFields()) {
            if (!Modifier.isPrivate(field.getModifiers())) {
                found.add(field.getName());
            }
        }
        for (Constructor<?> made : ConfigTexts.class.getDeclaredConstructors()) {
            if (!Modifier.isPrivate(made.getModifiers())) {
                found.add("ConfigTexts(" + types(made.getParameterTypes()) + ")");
            }
        }
        for (Method method : ConfigTexts.class.getDeclaredMethods()) {
            if (!Modifier.isPrivate(method.getModifiers())) {
                found.add(method.getName() + "(" + types(method.getParameterTypes()) + ")" + method.getReturnType());
            }
        }
        check.same("the face " + found + " is as due", found.equals(due), true);
        check.same("final", Modifier.isFinal(ConfigTexts.class.getModifiers()), true);
        check.end();
    }

    private static String types(Class<?>[] types) {
        StringBuilder all = new StringBuilder();
        for (Class<?> type : types) {
            all.append(all.length() == 0 ? "" : ",").append(type);
        }
        return all.toString();
    }
}
