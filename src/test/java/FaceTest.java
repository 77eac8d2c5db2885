import java.lang.reflect.Constructor;
import java.lang.reflect.Field;
import java.lang.reflect.Method;
import java.lang.reflect.Modifier;
import java.util.Arrays;
import java.util.Set;
import java.util.TreeSet;

/** The class has the document's face and no other member that can be seen. */
public final class FaceTest {
    private static final String FACE = """
        feed(int,int,int,int,int)int; end(int)boolean; fault(int)int; text(int)int; master(int)int;
        lad(int,int)int; way(int,int)int; law(int)boolean; show(int,int)int; warn(int)int; leave(int)int;
        come(int)int; years(int)int; bold(int)boolean; winters(int,long)int; status(int)int; undo()int;
        log(int,int)int; chosen()int; path(int,int,int)int; holds(int)int; tells(int)int; twins(int)int;
        chain(int,int)int; trusts(int)int; out(int,boolean)int; spies(int,int)int; clear(int)int;
        best(int)int; flight(int)int; reach()int; dare()int; shares(int)int; game(int,int,int,int,int)int;
        rests(int,int,int)int; grave(int,int,boolean)int; dug()int; odds(int,int)int; ablest()int;
        hides(int)int; order()int; safe(int)int; friends(int)int; oldest()int; learns(int)int; image()int;
        back()int; count(int)int""";

    public static void main(String[] args) {
        Check check = new Check("FaceTest");
        Set<String> due = new TreeSet<>(Arrays.asList(FACE.replaceAll("\\s+", "").split(";")));
        Set<String> seen = new TreeSet<>();
        Set<String> names = new TreeSet<>();
        for (Method method : BlackMill.class.getDeclaredMethods()) {
            if (!Modifier.isPrivate(method.getModifiers())) {
                seen.add(told(method));
                names.add(method.getName());
                check.due(method.getName() + " is static", Modifier.isStatic(method.getModifiers()), false);
            }
        }
        check.due("methods " + seen, seen.equals(due), true);
        check.due("final", Modifier.isFinal(BlackMill.class.getModifiers()), true);
        constructors(check);
        fields(check);
        privateNames(check, names, BlackMill.class);
        for (Class<?> inner : BlackMill.class.getDeclaredClasses()) {
            check.due(inner + " is static", Modifier.isStatic(inner.getModifiers()), true);
            check.due(inner + " is seen", (inner.getModifiers() & (Modifier.PUBLIC | Modifier.PROTECTED)) != 0, false);
            privateNames(check, names, inner);
            ownFields(check, inner);
        }
        ownFields(check, BlackMill.class);
        check.due("classes inside", BlackMill.class.getDeclaredClasses().length <= 12, true);
        check.end();
    }

    private static String told(Method method) {
        StringBuilder told = new StringBuilder(method.getName()).append('(');
        for (Class<?> type : method.getParameterTypes()) {
            told.append(told.charAt(told.length() - 1) == '(' ? "" : ",").append(type.getName());
        }
        return told.append(')').append(method.getReturnType().getName()).toString();
    }

    private static void constructors(Check check) {
        Constructor<?>[] all = BlackMill.class.getDeclaredConstructors();
        check.due("constructors", all.length, 1);
        check.due("parameters of the constructor", all[0].getParameterCount(), 0);
        check.due("public constructor", Modifier.isPublic(all[0].getModifiers()), true);
    }

    private static void fields(Check check) {
        Set<String> seen = new TreeSet<>();
        for (Field field : BlackMill.class.getDeclaredFields()) {
            if (!Modifier.isPrivate(field.getModifiers())) {
                seen.add(field.getName());
            }
        }
        check.due("fields " + seen, seen.equals(Set.of("NONE", "HIDDEN")), true);
        check.due("NONE", BlackMill.NONE, -1);
        check.due("HIDDEN", BlackMill.HIDDEN, -1000000);
    }

    private static void ownFields(Check check, Class<?> type) {
        int many = 0;
        for (Field field : type.getDeclaredFields()) {
            boolean fixed = Modifier.isStatic(field.getModifiers());
            check.due(type + "." + field.getName() + " can change", fixed && !Modifier.isFinal(field.getModifiers()), false);
            many += fixed ? 0 : 1;
        }
        check.due(type + " has more than twenty fields", many > 20, false);
    }

    private static void privateNames(Check check, Set<String> names, Class<?> type) {
        for (Method method : type.getDeclaredMethods()) {
            boolean hidden = type != BlackMill.class || Modifier.isPrivate(method.getModifiers());
            check.due(type + "." + method.getName() + " bears a name of the face",
                hidden && names.contains(method.getName()), false);
        }
    }
}
