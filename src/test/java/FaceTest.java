import java.io.IOException;
import java.lang.reflect.Constructor;
import java.lang.reflect.Field;
import java.lang.reflect.Method;
import java.lang.reflect.Modifier;
import java.util.ArrayList;
import java.util.Arrays;
import java.util.List;
import java.util.TreeSet;

/** The class shows just the document's face, and nothing else to other classes. */
public final class FaceTest {
    private static final String[] DUE = {
        "int feed(int,int,int,int,int)", "int land(int)", "int fault()", "int count(int)",
        "int one(int,int)", "int work(int,int)", "int spared()", "int go(int)", "int back(int)",
        "boolean learn(int,int,int)", "int move(int,int)", "int months(int)", "int undo()",
        "boolean can(int,int)", "int most(int)", "int strongest(int,int,int)", "int never()",
        "int last(int)", "int orders(int)", "int wells(int)", "int piece(int,int)",
        "int taught(int,int)", "int trade()", "int see(int,int)", "void forget()", "int secret(int)",
        "int game(int,int,int)", "int year(int,int,int)", "int needed()", "int free()", "long ways()",
        "int doer(int)", "int recalled(int)", "int allMonths(int)", "int school()", "int clash(int)",
        "int lacking(int)", "int worth(int)", "int lack(int,int,int)", "void image()",
        "boolean restore()",
    };

    public static void main(String[] args) throws IOException {
        Check check = new Check("FaceTest");
        Class<?> type = SpareWell.class;
        int classModifiers = Modifier.PUBLIC | Modifier.FINAL;
        check.same("class modifiers", type.getModifiers(), classModifiers);
        TreeSet<String> seen = new TreeSet<>();
        TreeSet<String> publicNames = new TreeSet<>();
        List<String> privateNames = new ArrayList<>();
        for (Method method : type.getDeclaredMethods()) {
            if (Modifier.isPrivate(method.getModifiers())) {
                privateNames.add(method.getName());
            } else {
                check.same(method.getName() + " modifiers", method.getModifiers(), Modifier.PUBLIC);
                publicNames.add(method.getName());
                seen.add(shown(method));
            }
        }
        check.same("methods " + seen, seen.equals(new TreeSet<>(Arrays.asList(DUE))) ? 1 : 0, 1);
        for (String name : privateNames) {
            check.same("private " + name + " is no name of the face", publicNames.contains(name) ? 1 : 0, 0);
        }
        Constructor<?>[] constructors = type.getDeclaredConstructors();
        check.same("constructors", constructors.length, 1);
        check.same("constructor modifiers", constructors[0].getModifiers(), Modifier.PUBLIC);
        check.same("constructor parameters", constructors[0].getParameterCount(), 0);
        for (Field field : type.getDeclaredFields()) {
            if (!Modifier.isPrivate(field.getModifiers())) {
                check.same("field " + field.getName(), field.getName().equals("NONE") ? 1 : 0, 1);
            }
        }
        check.same("NONE", SpareWell.NONE, -1);
        check.end();
    }

    private static String shown(Method method) {
        List<String> types = new ArrayList<>();
        for (Class<?> type : method.getParameterTypes()) {
            types.add(type.getSimpleName());
        }
        String result = method.getReturnType().getSimpleName();
        return result + " " + method.getName() + "(" + String.join(",", types) + ")";
    }
}
