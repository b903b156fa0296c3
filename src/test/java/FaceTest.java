import java.lang.reflect.Constructor;
import java.lang.reflect.Field;
import java.lang.reflect.Member;
import java.lang.reflect.Method;
import java.lang.reflect.Modifier;
import java.util.Arrays;
import java.util.TreeSet;

/** The face is that of the document and nothing else: its constants, its constructor, its methods. */
public final class FaceTest {
    private static final String[] FACE = {
        "int write(int)", "int wipe()", "int fault()", "int lay()", "int nail(int,int)", "int cell(int)", "int damp(int)",
        "int pass(int)", "int hammer(int)", "int oil(int)", "int pull(int,int)", "int drive(int,int,int,int)",
        "int undo()", "int behind(int,int,int)", "int first(int)", "int clash(int)", "int room(int)", "int blows(int)",
        "int letOut(int,int)", "int from(int,int)", "int measure(int,int,int)", "int forget()", "int kinds(int)",
        "int damps(int)", "int shaken(int,int,int,int)", "int century(int,int,int)", "int keep()", "int back()",
        "int count(int)", "int BAD", "int NO", "int FULL", "int NONE", "NailedYears()"};

    public static void main(String[] args) {
        TreeSet<String> found = new TreeSet<>();
        for (Method method : NailedYears.class.getDeclaredMethods()) {
            addIfSeen(found, method, told(method.getReturnType().getSimpleName() + " " + method.getName(), method.getParameterTypes()));
        }
        for (Constructor<?> constructor : NailedYears.class.getDeclaredConstructors()) {
            addIfSeen(found, constructor, told("NailedYears", constructor.getParameterTypes()));
        }
        for (Field field : NailedYears.class.getDeclaredFields()) {
            addIfSeen(found, field, field.getType().getSimpleName() + " " + field.getName());
        }
        TreeSet<String> due = new TreeSet<>(Arrays.asList(FACE));
        int modifiers = NailedYears.class.getModifiers();
        if (!found.equals(due) || !Modifier.isFinal(modifiers) || !Modifier.isPublic(modifiers)) {
            System.out.println("the face is " + found + ", due is " + due);
            System.exit(1);
        }
        System.out.println("the face is as told");
    }

    private static void addIfSeen(TreeSet<String> found, Member member, String told) {
        if (!Modifier.isPrivate(member.getModifiers()) && !member.isSynthetic()) {
            found.add(told);
        }
    }

    private static String told(String name, Class<?>[] parameters) {
        StringBuilder told = new StringBuilder(name).append('(');
        for (int k = 0; k < parameters.length; k++) {
            told.append(k == 0 ? "" : ",").append(parameters[k].getSimpleName());
        }
        return told.append(')').toString();
    }
}
