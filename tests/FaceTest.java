import java.lang.reflect.Constructor;
import java.lang.reflect.Field;
import java.lang.reflect.Method;
import java.lang.reflect.Modifier;
import java.util.Set;
import java.util.TreeSet;

/** The class has the document's public face, and nothing else that can be seen from outside. */
public final class FaceTest {
    private static final String[] FACE = {
        "int feed(int, int, int, int, int)", "boolean end(int)", "int sea()", "int fault()", "int port(int, int)",
        "int way(int, int)", "int mail(int, int)", "int price(int, int, int)", "int now(int)", "int paint(int)",
        "int sail(int)", "int waits(int)", "int takes()", "int learn(int, int)", "int undo()", "int knows(int, int)",
        "int first(int)", "int far(int, int)", "int hears(int, int)", "int safe(int)", "int outruns(int)", "int names()",
        "int nameOf(int)", "int register()", "int lacks(int)", "int plays(int, int)", "int man(int)", "int needs(int)",
        "int over(int, int)", "int mixed(int)", "int net(int)", "int lasts(int, int)", "int soonest()", "int where()",
        "int drawn(int, int)", "int odds(int, int)", "int log(int)", "int logged(int)", "int sentence()", "int said(int)",
        "boolean image(int)", "boolean restore(int)", "int count(int)"};

    public static void main(String[] args) {
        Set<String> want = new TreeSet<>(Set.of(FACE));
        Set<String> got = new TreeSet<>();
        Set<String> hidden = new TreeSet<>();
        for (Method method : FalseName.class.getDeclaredMethods()) {
            StringBuilder face = new StringBuilder(method.getReturnType() + " " + method.getName() + "(");
            for (Class<?> type : method.getParameterTypes()) {
                face.append(face.charAt(face.length() - 1) == '(' ? "" : ", ").append(type);
            }
            if (Modifier.isPrivate(method.getModifiers())) {
                hidden.add(method.getName());
            } else {
                got.add(face + ")");
            }
        }
        Check.due("the methods " + got + " as told", got.equals(want), true);
        for (String face : FACE) {
            String name = face.substring(face.indexOf(' ') + 1, face.indexOf('('));
            Check.due("a private method named " + name, hidden.contains(name), false);
        }
        for (Field field : FalseName.class.getDeclaredFields()) {
            int modifiers = field.getModifiers();
            boolean told = field.getName().equals("NONE");
            Check.due("field " + field.getName(), Modifier.isPublic(modifiers), told);
            Check.due("field " + field.getName(), Modifier.isPrivate(modifiers), !told);
            Check.due("static is final: " + field.getName(),
                Modifier.isStatic(modifiers) && !Modifier.isFinal(modifiers), false);
        }
        Constructor<?>[] constructors = FalseName.class.getDeclaredConstructors();
        Check.due("constructors", constructors.length, 1);
        Check.due("of no arguments", constructors[0].getParameterCount(), 0);
        Check.due("public", Modifier.isPublic(constructors[0].getModifiers()), true);
        Check.due("final", Modifier.isFinal(FalseName.class.getModifiers()), true);
        Check.end("FaceTest");
    }
}
