import java.lang.reflect.Constructor;
import java.lang.reflect.Field;
import java.lang.reflect.Method;
import java.lang.reflect.Modifier;
import java.util.Set;
import java.util.TreeSet;

/** The class has the document's face and nothing else that can be seen from outside. */
public final class FaceTest {

    public static void main(String[] args) {
        Set<String> seen = new TreeSet<>();
        for (Method method : TokenDesk.class.getDeclaredMethods()) {
            if (!Modifier.isPrivate(method.getModifiers())) {
                seen.add(method.toString());
            }
        }
        for (Constructor<?> constructor : TokenDesk.class.getDeclaredConstructors()) {
            seen.add(constructor.toString());
        }
        for (Field field : TokenDesk.class.getDeclaredFields()) {
            if (!Modifier.isPrivate(field.getModifiers())) {
                seen.add(field.toString());
            }
        }
        String index = "java.lang.IndexOutOfBoundsException";
        String argument = "java.lang.IllegalArgumentException";
        Set<String> due = new TreeSet<>(Set.of(
            "public TokenDesk()",
            "public int TokenDesk.feed(int,int,int,int,int) throws " + index,
            "public int TokenDesk.scan(int) throws " + index + "," + argument,
            "public int TokenDesk.wrong()",
            "public int TokenDesk.token(int,int) throws " + argument + "," + index,
            "public int TokenDesk.many()"));
        Check.due("members", seen.toString(), due.toString());
        Check.due("class", Modifier.toString(TokenDesk.class.getModifiers()), "public final");
        for (Class<?> inside : TokenDesk.class.getDeclaredClasses()) {
            Check.due(inside.getName(), Boolean.toString(Modifier.isStatic(inside.getModifiers())), "true");
        }
        Check.end("FaceTest");
    }
}
