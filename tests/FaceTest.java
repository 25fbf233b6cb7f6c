import java.lang.reflect.Constructor;
import java.lang.reflect.Field;
import java.lang.reflect.Method;
import java.lang.reflect.Modifier;
import java.util.List;
import java.util.TreeSet;

/** The public face: what the document lists, and nothing else that is not private. */
public final class FaceTest {
    private static final List<String> FACE = List.of(
        "int feed(int,int,int,int,int)", "boolean end(int)", "boolean field(int,int,int,int,int,int)",
        "void rain(int,int,boolean)", "int fell(int)", "int price(int,int,int)", "int known(int,int,int)",
        "int let(int,int,int,int,boolean)", "int keep(int,int,int,int,int)", "boolean sow(int,int)",
        "boolean notice(int)", "int give(int)", "int seasons(int)", "int look(int,int)", "int led(int,int)",
        "int owed(int)", "int rent(int)", "int arrears(int)", "int words(int)", "int fault()", "int may(int,int)",
        "int why(int,int)", "int cut(int,boolean)", "int loan(int,int,int,boolean)", "int owing(int)",
        "boolean work(int,boolean)", "int sell(int,boolean)", "int heir()", "int wrong(int,int)",
        "int job(int,int,int)", "int trouble(int,int)", "int worth(int,int,int)", "int best(int,int)",
        "int toSell(int,int,int)", "int row(int,int)", "int tear(int,int,int)", "int check()", "void image()",
        "boolean back()", "int count(int)");

    public static void main(String[] args) {
        TreeSet<String> names = new TreeSet<>();
        TreeSet<String> found = new TreeSet<>();
        for (Method method : GreatEstate.class.getDeclaredMethods()) {
            if (Modifier.isPublic(method.getModifiers())) {
                names.add(method.getName());
                found.add(told(method));
            }
        }
        for (String call : FACE) {
            Calls.due("there is " + call, found.contains(call), true);
        }
        Calls.due("no more public calls", found.size(), FACE.size());
        for (Method method : GreatEstate.class.getDeclaredMethods()) {
            int modifiers = method.getModifiers();
            Calls.due(method + " is public or private", Modifier.isPublic(modifiers) || Modifier.isPrivate(modifiers), true);
            Calls.due(method + " has its own name", Modifier.isPublic(modifiers) || !names.contains(method.getName()), true);
        }
        for (Field field : GreatEstate.class.getDeclaredFields()) {
            Calls.due(field + " is private or NONE", Modifier.isPrivate(field.getModifiers()) || field.getName().equals("NONE"), true);
        }
        Constructor<?>[] constructors = GreatEstate.class.getDeclaredConstructors();
        Calls.due("one constructor", constructors.length, 1);
        Calls.due("without numbers", constructors[0].getParameterCount(), 0);
        Calls.due("a final class", Modifier.isFinal(GreatEstate.class.getModifiers()), true);
        for (Class<?> inside : GreatEstate.class.getDeclaredClasses()) {
            int modifiers = inside.getModifiers();
            Calls.due(inside + " is static", Modifier.isStatic(modifiers), true);
            Calls.due(inside + " is not public", Modifier.isPublic(modifiers) || Modifier.isProtected(modifiers), false);
        }
        Calls.finish();
    }

    private static String told(Method method) {
        StringBuilder s = new StringBuilder(method.getReturnType() + " " + method.getName() + "(");
        for (Class<?> type : method.getParameterTypes()) {
            s.append(s.charAt(s.length() - 1) == '(' ? "" : ",").append(type);
        }
        return s.append(')').toString();
    }
}
