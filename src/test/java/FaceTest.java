import java.lang.reflect.Constructor;
import java.lang.reflect.Field;
import java.lang.reflect.Method;
import java.lang.reflect.Modifier;
import java.util.Map;
import java.util.TreeMap;

/** The class has the document's face and no other member that can be seen from outside. */
public final class FaceTest {
    public static void main(String[] args) {
        constants();
        methods();
        nothingElse();
        Check.end();
    }

    private static void constants() {
        Check.due("BAD", PronounOrders.BAD, -1);
        Check.due("NO", PronounOrders.NO, -2);
        Check.due("FULL", PronounOrders.FULL, -3);
        Check.due("NONE", PronounOrders.NONE, -4);
        Check.due("final", Modifier.isFinal(PronounOrders.class.getModifiers()) ? 1 : 0, 1);
    }

    private static void methods() {
        Map<String, String> face = new TreeMap<>();
        face.put("thing", "[int]");
        face.put("see", "[int, boolean]");
        face.put("own", "[int, int]");
        face.put("turn", "[int, int]");
        face.put("feed", "[int, long]");
        face.put("word", "[int]");
        face.put("name", "[int, int, int]");
        face.put("form", "[int, int]");
        face.put("same", "[int, int]");
        face.put("line", "[]");
        face.put("fault", "[]");
        face.put("order", "[int, int]");
        face.put("given", "[int, int, int]");
        face.put("table", "[int, int]");
        face.put("count", "[int]");
        int found = 0;
        for (Method method : PronounOrders.class.getDeclaredMethods()) {
            boolean isInFace = face.containsKey(method.getName());
            boolean isPublic = Modifier.isPublic(method.getModifiers());
            Check.due("public or not: " + method, isPublic ? 1 : 0, isInFace ? 1 : 0);
            if (isInFace) {
                String types = java.util.Arrays.toString(method.getParameterTypes());
                Check.due("parameters of " + method, types.equals(face.get(method.getName())) ? 1 : 0, 1);
                Check.due("answer of " + method, method.getReturnType() == int.class ? 1 : 0, 1);
                found++;
            }
        }
        Check.due("methods", found, face.size());
    }

    private static void nothingElse() {
        int constants = 0;
        for (Field field : PronounOrders.class.getDeclaredFields()) {
            boolean isPrivate = Modifier.isPrivate(field.getModifiers());
            boolean isConstant = "BAD NO FULL NONE".contains(field.getName());
            Check.due("private: " + field, isPrivate ? 1 : 0, isConstant && !isPrivate ? 0 : 1);
            constants += isPrivate ? 0 : 1;
        }
        Check.due("constants", constants, 4);
        Constructor<?>[] constructors = PronounOrders.class.getDeclaredConstructors();
        Check.due("constructors", constructors.length, 1);
        Check.due("public constructors", PronounOrders.class.getConstructors().length, 1);
    }
}
