import java.lang.reflect.Constructor;
import java.lang.reflect.Field;
import java.lang.reflect.Method;
import java.lang.reflect.Modifier;
import java.util.Arrays;
import java.util.Set;
import java.util.TreeSet;

/** The face is the document's, and nothing else of the class can be seen. */
public final class FaceTest {
    private static final String[] FACE = {
        "int feed(int,int,int,int,int)", "int lanes(int)", "int fault()", "int count(int)",
        "int cell(int,int)", "int look(int,int)", "int swimmer(int,int)", "int delay(int,int)",
        "int worst(int)", "int swim(int,int)", "int chair(int)", "int lasts(int,int)",
        "boolean change(int,int)", "int minutes(int)", "int undo()", "int order()", "int lengths()",
        "int row(int)", "int best(int)", "int away(int)", "int swap()", "int many()", "int halves(int)",
        "int two(int)", "int game(int,int)", "int fun()", "int jump(int,int)", "int dummy(int)",
        "int dummies(int)", "int more(int)", "int heads(int,int)", "void forget()", "int missing(int)",
        "int week(int,int,int)", "long blind()", "int without(int)", "int risk(int)", "void image()",
        "boolean restore()"};

    public static void main(String[] args) {
        Checks checks = new Checks("FaceTest");
        Class<?> face = LaneEyes.class;
        checks.due("public", true, Modifier.isPublic(face.getModifiers()));
        checks.due("final", true, Modifier.isFinal(face.getModifiers()));
        checks.due("NONE", -1, LaneEyes.NONE);
        Set<String> want = new TreeSet<>(Arrays.asList(FACE));
        Set<String> got = new TreeSet<>();
        Set<String> publicNames = new TreeSet<>();
        for (Method method : face.getDeclaredMethods()) {
            if (!Modifier.isPrivate(method.getModifiers())) {
                checks.due("public " + method, true, Modifier.isPublic(method.getModifiers()));
                got.add(told(method));
                publicNames.add(method.getName());
            }
        }
        for (String method : want) {
            checks.due("there is " + method, true, got.contains(method));
        }
        for (String method : got) {
            checks.due("the document has " + method, true, want.contains(method));
        }
        for (Method method : face.getDeclaredMethods()) {
            if (Modifier.isPrivate(method.getModifiers())) {
                checks.due("no public name: " + method, false, publicNames.contains(method.getName()));
            }
        }
        for (Field field : face.getDeclaredFields()) {
            checks.due("hidden " + field, !field.getName().equals("NONE"), Modifier.isPrivate(field.getModifiers()));
            checks.due("no static state " + field, true,
                !Modifier.isStatic(field.getModifiers()) || Modifier.isFinal(field.getModifiers()));
        }
        Constructor<?>[] constructors = face.getDeclaredConstructors();
        checks.due("constructors", 1, constructors.length);
        checks.due("its parameters", 0, constructors[0].getParameterCount());
        checks.end();
    }

    private static String told(Method method) {
        StringBuilder text = new StringBuilder();
        text.append(method.getReturnType()).append(' ').append(method.getName()).append('(');
        for (int i = 0; i < method.getParameterCount(); i++) {
            text.append(i == 0 ? "" : ",").append(method.getParameterTypes()[i]);
        }
        return text.append(')').toString();
    }
}
