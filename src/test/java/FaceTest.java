import java.lang.reflect.Constructor;
import java.lang.reflect.Field;
import java.lang.reflect.Method;
import java.lang.reflect.Modifier;
import java.util.ArrayList;
import java.util.List;
import java.util.TreeSet;

/** The public face: each constant, constructor and method of the document, and no other. */
public final class FaceTest {
    private static final String[] FACE = {
        "int row(int,int,int)", "int set(int,int,long)", "int copy(int,int,int,int,int)",
        "long element(int,int)", "int show(int,int)", "int holds(int)", "int says(int,int)",
        "int revise(int,int)", "int fault()", "int lines(int)", "int letter(int,int,int)",
        "int former(int)", "int rule(int,int)", "int place(int,int,int)", "int matched(int,int,int)",
        "int through(int,int,int)", "int origin(int,int,int)", "int remark(int,int,int,int,int,int)",
        "int remarkOf(int,int)", "int settle(int,boolean)", "int put(int,int,int)",
        "int score(int,int,int)", "int leastNeed(int,int)", "int fitting(int,int)",
        "int inOrder(int,int)", "int who(int,int)", "int covered(int)", "int judge(int,int,int)",
        "int again(int,int)", "int drift(int)", "int seed(int)", "int act(int,int,int)",
        "int trace(int)", "int image()", "int restore()", "int status(int)",
    };

    public static void main(String[] args) throws Exception {
        Checks due = new Checks("FaceTest");
        Class<?> face = LineRemarks.class;
        due.due("modifiers", face.getModifiers(), Modifier.PUBLIC | Modifier.FINAL);
        due.that("a class of nothing else", face.getSuperclass() == Object.class && face.getInterfaces().length == 0);
        TreeSet<String> methods = new TreeSet<>();
        for (Method method : face.getDeclaredMethods()) {
            if (!Modifier.isPrivate(method.getModifiers())) {
                due.due("modifiers of " + method, method.getModifiers(), Modifier.PUBLIC);
                methods.add(told(method));
            }
        }
        due.same("methods", methods.toString(), new TreeSet<>(List.of(FACE)).toString());
        List<String> fields = new ArrayList<>();
        for (Field field : face.getDeclaredFields()) {
            if (!Modifier.isPrivate(field.getModifiers())) {
                fields.add(Modifier.toString(field.getModifiers()) + " " + field.getType() + " " + field.getName());
            }
        }
        due.same("constants", fields.toString(), "[public static final int NONE]");
        Constructor<?>[] constructors = face.getDeclaredConstructors();
        due.due("constructors", constructors.length, 1);
        due.due("its modifiers", constructors[0].getModifiers(), Modifier.PUBLIC);
        due.due("its parameters", constructors[0].getParameterCount(), 0);
        inside(due, face);
        due.end();
    }

    private static String told(Method method) {
        StringBuilder types = new StringBuilder();
        for (Class<?> type : method.getParameterTypes()) {
            types.append(types.length() == 0 ? "" : ",").append(type);
        }
        return method.getReturnType() + " " + method.getName() + "(" + types + ")";
    }

    /** LANGUAGE.md 1, 2, 5, 11: classes inside, their fields, names and numbers ("some" is taken with room). */
    private static void inside(Checks due, Class<?> face) throws Exception {
        TreeSet<String> taken = new TreeSet<>();
        for (Method method : face.getMethods()) {
            if (method.getDeclaringClass() == face) {
                taken.add(method.getName());
            }
        }
        Class<?>[] all = face.getDeclaredClasses();
        due.that("some twelve classes", all.length < 14);
        List<Class<?>> each = new ArrayList<>(List.of(all));
        each.add(face);
        for (Class<?> one : each) {
            due.that(one + " is static", one == face || Modifier.isStatic(one.getModifiers()));
            int fields = 0;
            for (Field field : one.getDeclaredFields()) {
                int is = field.getModifiers();
                fields += Modifier.isStatic(is) ? 0 : 1;
                due.that(field + " is final, if static", !Modifier.isStatic(is) || Modifier.isFinal(is));
            }
            due.that(one + " has some twenty fields", fields <= 24);
            for (Method method : one.getDeclaredMethods()) {
                due.that(method + " has at most seven parameters", method.getParameterCount() <= 7);
                due.that(method + " bears a name of its own",
                    !Modifier.isPrivate(method.getModifiers()) || !taken.contains(method.getName()));
            }
        }
    }
}
