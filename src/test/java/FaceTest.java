import java.lang.reflect.Constructor;
import java.lang.reflect.Field;
import java.lang.reflect.Method;
import java.lang.reflect.Modifier;
import java.util.Arrays;
import java.util.Set;
import java.util.TreeSet;

/** The public face: the constants, the constructor and the methods of the document, and no more. */
public final class FaceTest {
    public static void main(String[] args) throws ReflectiveOperationException {
        Answers answers = new Answers("FaceTest");
        answers.due("the class is public and final", TemplateCaller.class.getModifiers(),
            Modifier.PUBLIC | Modifier.FINAL);
        answers.due("members that are not private", membersNotPrivate(), new TreeSet<>(Arrays.asList(
            "BAD=-11", "CUTLIST=-5", "FULL=-12", "LONE=-8", "LONG=-10", "MIXED=-6", "NOBODY=-7", "TEMPLATE=-1",
            "TWICE=-3", "UNFIT=-9", "UNKNOWN=-2", "UNUSED=-4", "new()",
            "boolean declare(int)", "boolean template(char)", "int parameter(int,char)", "int check()",
            "boolean item(int)", "boolean write(int,char)", "boolean empty(int)", "int send()", "int sent(int)",
            "int feed(int)", "int close()", "void reset()", "int state()", "int status()", "int fields()",
            "int length()", "int content(int)")));
        for (Class<?> inside : TemplateCaller.class.getDeclaredClasses()) {
            answers.due(inside + " is static", Modifier.isStatic(inside.getModifiers()), true);
        }
        answers.finish();
    }

    private static Set<String> membersNotPrivate() throws ReflectiveOperationException {
        Set<String> members = new TreeSet<>();
        for (Field field : TemplateCaller.class.getDeclaredFields()) {
            if (!Modifier.isPrivate(field.getModifiers())) {
                members.add(field.getName() + "=" + field.get(null));
            }
        }
        for (Constructor<?> constructor : TemplateCaller.class.getDeclaredConstructors()) {
            members.add("new" + types(constructor.getParameterTypes()));
        }
        for (Method method : TemplateCaller.class.getDeclaredMethods()) {
            if (!Modifier.isPrivate(method.getModifiers())) {
                members.add(method.getReturnType() + " " + method.getName() + types(method.getParameterTypes()));
            }
        }
        return members;
    }

    private static String types(Class<?>[] types) {
        StringBuilder text = new StringBuilder("(");
        for (Class<?> type : types) {
            text.append(text.length() == 1 ? "" : ",").append(type);
        }
        return text.append(")").toString();
    }
}
