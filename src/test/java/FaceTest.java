import java.lang.reflect.Field;
import java.lang.reflect.Method;
import java.lang.reflect.Modifier;
import java.util.Arrays;
import java.util.List;
import java.util.TreeSet;

/** The public face is the document's and nothing else. */
public final class FaceTest {
    /** Behind each call what it may throw: U unknown, R range, S state, F no room. */
    private static final String[] FACE = {
        "void row(int,int,int) UR", "void top(int) US", "int trigger(int,int,int,int) URF", "int begin() F",
        "void close(int) US", "int tick(int) R", "int word(int,int) URS", "int hurt(int,int) URS",
        "int ask(int,int) URS", "void tell(int) US", "int calm(int,int) US", "int unit(int) UF",
        "void go(int,int,int) URS", "void arrive(int) US", "int needed(int,int) US", "int incident(int,int) U",
        "int unitAt(int,int) U", "int acted(int) U", "int count(int) U",
    };
    private static final List<Class<?>> THROWN = List.of(Check.UNKNOWN, Check.RANGE, Check.STATE, Check.ROOM);

    public static void main(String[] args) {
        Check check = new Check();
        TreeSet<String> open = new TreeSet<>();
        TreeSet<String> openNames = new TreeSet<>();
        TreeSet<String> hiddenNames = new TreeSet<>();
        for (Method method : SecondWaves.class.getDeclaredMethods()) {
            if (Modifier.isPrivate(method.getModifiers())) {
                hiddenNames.add(method.getName());
            } else {
                open.add(written(method));
                openNames.add(method.getName());
            }
        }
        check.same("methods", open.toString(), new TreeSet<>(Arrays.asList(FACE)).toString());
        hiddenNames.retainAll(openNames);
        check.same("private methods with a public one's name", hiddenNames.toString(), "[]");
        for (Field field : SecondWaves.class.getDeclaredFields()) {
            check.same("private is the field " + field.getName(), field.getModifiers() & Modifier.PRIVATE, Modifier.PRIVATE);
        }
        check.same("constructors", SecondWaves.class.getDeclaredConstructors().length, 1);
        check.same("public constructors", SecondWaves.class.getConstructors().length, 1);
        int both = Modifier.PUBLIC | Modifier.FINAL;
        check.same("public and final", SecondWaves.class.getModifiers() & both, both);
        check.end();
    }

    private static String written(Method method) {
        StringBuilder text = new StringBuilder();
        text.append(method.getReturnType()).append(' ').append(method.getName()).append('(');
        for (Class<?> type : method.getParameterTypes()) {
            text.append(text.charAt(text.length() - 1) == '(' ? "" : ",").append(type);
        }
        text.append(") ");
        for (Class<?> thrown : method.getExceptionTypes()) {
            text.append("URSF".charAt(THROWN.indexOf(thrown)));
        }
        return text.toString();
    }
}
