import java.lang.reflect.Constructor;
import java.lang.reflect.Field;
import java.lang.reflect.Method;
import java.lang.reflect.Modifier;
import java.util.ArrayList;
import java.util.Arrays;
import java.util.List;
import java.util.TreeSet;

/** The public face is the document's, member by member. */
public final class FaceTest {
    private static final String[] METHODS = {
        "int register(int)", "int constant(long)", "int field(int,int,boolean)", "int transfer(int,int,int,int)",
        "int instruction(int,int,int)", "int memory(int,int)", "int byteAt(int)", "int step(int)",
        "long set(int,long)", "long get(int)", "boolean mark(int)", "boolean line(int,boolean)",
        "int enable(int,int)", "int fault(int)", "int halted()", "int counter(int)"};

    public static void main(String[] args) {
        Checks.due("NONE", PlainSteps.NONE, -1);
        Checks.due("public", Modifier.isPublic(PlainSteps.class.getModifiers()), true);
        Checks.due("final", Modifier.isFinal(PlainSteps.class.getModifiers()), true);
        TreeSet<String> open = new TreeSet<>();
        List<String> hidden = new ArrayList<>();
        for (Method m : PlainSteps.class.getDeclaredMethods()) {
            if (Modifier.isPrivate(m.getModifiers())) {
                hidden.add(m.getName());
            } else {
                open.add(told(m));
            }
        }
        TreeSet<String> wanted = new TreeSet<>(Arrays.asList(METHODS));
        Checks.due("the methods " + open, open.equals(wanted), true);
        for (Method m : PlainSteps.class.getDeclaredMethods()) {
            boolean clash = !Modifier.isPrivate(m.getModifiers()) && hidden.contains(m.getName());
            Checks.due("a private method called " + m.getName(), clash, false);
        }
        for (Field f : PlainSteps.class.getDeclaredFields()) {
            boolean hiddenOrNone = Modifier.isPrivate(f.getModifiers()) || f.getName().equals("NONE");
            Checks.due("the field " + f.getName() + " is hidden", hiddenOrNone, true);
        }
        Constructor<?>[] makers = PlainSteps.class.getDeclaredConstructors();
        Checks.due("constructors", makers.length, 1);
        Checks.due("its parameters", makers[0].getParameterCount(), 0);
        Checks.finish();
    }

    private static String told(Method m) {
        StringBuilder text = new StringBuilder(m.getReturnType().toString());
        text.append(' ').append(m.getName()).append('(');
        for (int i = 0; i < m.getParameterCount(); i++) {
            text.append(i == 0 ? "" : ",").append(m.getParameterTypes()[i]);
        }
        return text.append(')').toString();
    }
}
