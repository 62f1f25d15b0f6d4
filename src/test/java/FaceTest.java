import java.lang.reflect.Constructor;
import java.lang.reflect.Field;
import java.lang.reflect.Method;
import java.lang.reflect.Modifier;
import java.util.Set;
import java.util.TreeSet;

/** The public face: what the document lists, and nothing else that is not private. */
final class FaceTest {
    private static final String[] FACE = {
        "boolean constant(int,int,int,double)",
        "boolean drop(int,int)",
        "boolean member(int,int,boolean,int,int)",
        "boolean remove(int,int,boolean,int)",
        "boolean type(int,int,int,int,int)",
        "boolean version(int,int,int)",
        "double shift(int)",
        "int advice()",
        "int branch()",
        "int change(int,int)",
        "int clear()",
        "int fits(int,int,boolean,int)",
        "int judge(int,int,int)",
        "int letter(int)",
        "int list()",
        "int report(boolean,int)",
        "int rule(int,int,int)",
        "int FULL",
        "int NONE",
        "int REFUSED",
        "ReleaseDesk()",
    };

    public static void main(String[] args) {
        Check check = new Check();
        Set<String> due = new TreeSet<>(Set.of(FACE));
        Set<String> got = new TreeSet<>();
        Set<String> hidden = new TreeSet<>();
        for (Method method : ReleaseDesk.class.getDeclaredMethods()) {
            String told = method.getReturnType() + " " + method.getName()
                + parameters(method.getParameterTypes());
            if (!Modifier.isPrivate(method.getModifiers()) && !method.isSynthetic()) {
                got.add(told);
            } else {
                hidden.add(method.getName());
            }
        }
        for (Field field : ReleaseDesk.class.getDeclaredFields()) {
            if (!Modifier.isPrivate(field.getModifiers())) {
                got.add(field.getType() + " " + field.getName());
            }
        }
        for (Constructor<?> made : ReleaseDesk.class.getDeclaredConstructors()) {
            got.add("ReleaseDesk" + parameters(made.getParameterTypes()));
        }
        check.text("the face", String.join("\n", got), String.join("\n", due));
        for (String face : FACE) {
            String name = face.replaceAll("^\\w+ |\\(.*", "");
            check.no("a private method named " + name, hidden.contains(name));
        }
        check.yes("the class is final", Modifier.isFinal(ReleaseDesk.class.getModifiers()));
        check.yes("the class is public", Modifier.isPublic(ReleaseDesk.class.getModifiers()));
        check.end();
    }

    private static String parameters(Class<?>[] types) {
        StringBuilder text = new StringBuilder("(");
        for (int i = 0; i < types.length; i++) {
            text.append(i == 0 ? "" : ",").append(types[i]);
        }
        return text.append(")").toString();
    }
}
