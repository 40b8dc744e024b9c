import java.lang.reflect.Field;
import java.lang.reflect.Method;
import java.lang.reflect.Modifier;
import java.util.Arrays;
import java.util.TreeSet;

/** The public face is the document's and nothing else. */
public final class FaceTest {
    private static final String[] FACE = {
        "void row(int,int,int)", "void top(int)", "int trigger(int,int,int,int)", "int begin()", "void close(int)",
        "int tick(int)", "int word(int,int)", "int hurt(int,int)", "int ask(int,int)", "void tell(int)",
        "int calm(int,int)", "int unit(int)", "void go(int,int,int)", "void arrive(int)", "int needed(int,int)",
        "int incident(int,int)", "int unitAt(int,int)", "int acted(int)", "int count(int)",
    };

    public static void main(String[] args) {
        Check check = new Check();
        TreeSet<String> open = new TreeSet<>();
        TreeSet<String> openNames = new TreeSet<>();
        TreeSet<String> hiddenNames = new TreeSet<>();
        for (Method method : SecondWaves.class.getDeclaredMethods()) {
            if (Modifier.isPrivate(method.getModifiers())) {
                hiddenNames.add(method.getName());
            } else {
                open.add(written(method));
                openNames.add(method.getName());
            }
        }
        check.same("methods", open.toString(), new TreeSet<>(Arrays.asList(FACE)).toString());
        hiddenNames.retainAll(openNames);
        check.same("private methods with a public one's name", hiddenNames.toString(), "[]");
        for (Field field : SecondWaves.class.getDeclaredFields()) {
            check.same("private is the field " + field.getName(), field.getModifiers() & Modifier.PRIVATE, Modifier.PRIVATE);
        }
        check.same("constructors", SecondWaves.class.getDeclaredConstructors().length, 1);
        check.same("public constructors", SecondWaves.class.getConstructors().length, 1);
        int both = Modifier.PUBLIC | Modifier.FINAL;
        check.same("public and final", SecondWaves.class.getModifiers() & both, both);
        check.end();
    }

    private static String written(Method method) {
        StringBuilder text = new StringBuilder();
        text.append(method.getReturnType()).append(' ').append(method.getName()).append('(');
        for (Class<?> type : method.getParameterTypes()) {
            text.append(text.charAt(text.length() - 1) == '(' ? "" : ",").append(type);
        }
        return text.append(')').toString();
    }
}
