import java.lang.reflect.Constructor;
import java.lang.reflect.Field;
import java.lang.reflect.Method;
import java.lang.reflect.Modifier;
import java.util.Set;
import java.util.TreeSet;

/** The public face: just the document's constructor and methods, and nothing else that can be seen. */
public final class FaceTest {
    private static final Due DUE = new Due();
    private static final String[] METHODS = {
        "int days(int)", "int code(int,int,int)", "int turn(int,int,int)", "int stands(int,int)",
        "int most(int,int)", "int kitchen(int,int,int,int,int)", "int hard(int,boolean)",
        "int kin(int,int,boolean)", "int look(int,int,int)", "int find(int,int)", "int back(int)",
        "int score(int,int)", "int table(int,int,int,int,int)", "int star(int,int,int)", "int show(int,int)",
        "int falses()", "int base(int,int)", "int risk(int,int)", "int delay(int,int)", "int capacity(int)",
        "int rounds(int)", "int roundOf(int,int,int)", "int doubles()", "long habit(int,int)",
        "long evened(int,int)", "int others()", "int swap(int,int,int)", "int shut(int,int,int)",
        "int complaint(int,int,int,int)", "int part(int,int,int)", "int joined(int)", "int began(int,int)",
        "int cases(int,int,int)", "long effect(int)", "int chance()", "int helped()", "int count(int)"
    };

    private static String signature(Method method) {
        StringBuilder text = new StringBuilder();
        text.append(method.getReturnType().getName()).append(' ').append(method.getName()).append('(');
        String comma = "";
        for (Class<?> type : method.getParameterTypes()) {
            text.append(comma).append(type.getName());
            comma = ",";
        }
        return text.append(')').toString();
    }

    public static void main(String[] args) {
        Set<String> due = new TreeSet<>(Set.of(METHODS));
        Set<String> names = new TreeSet<>();
        for (String method : METHODS) names.add(method.substring(method.indexOf(' ') + 1, method.indexOf('(')));
        Set<String> got = new TreeSet<>();
        for (Method method : DoorStars.class.getDeclaredMethods()) {
            boolean hidden = Modifier.isPrivate(method.getModifiers());
            if (!hidden) got.add(signature(method));
            if (!hidden) DUE.holds(method + " is public, not static", Modifier.isPublic(method.getModifiers())
                    && !Modifier.isStatic(method.getModifiers()));
            if (hidden) DUE.holds(method + " has a name of its own", !names.contains(method.getName()));
            DUE.holds(method + " takes seven at most", method.getParameterCount() <= 7);
        }
        DUE.holds("the methods are " + due + " but were " + got, got.equals(due));
        DUE.holds("the class is public and final", Modifier.isPublic(DoorStars.class.getModifiers())
                && Modifier.isFinal(DoorStars.class.getModifiers()));
        Constructor<?>[] makers = DoorStars.class.getDeclaredConstructors();
        DUE.is("constructors", makers.length, 1);
        DUE.holds("it is public, without arguments",
                Modifier.isPublic(makers[0].getModifiers()) && makers[0].getParameterCount() == 0);
        for (Field field : DoorStars.class.getDeclaredFields()) {
            DUE.holds(field + " is private", Modifier.isPrivate(field.getModifiers()));
            if (Modifier.isStatic(field.getModifiers())) {
                DUE.holds(field + " is final", Modifier.isFinal(field.getModifiers()));
            }
        }
        for (Class<?> inside : DoorStars.class.getDeclaredClasses()) {
            int modifiers = inside.getModifiers();
            DUE.holds(inside + " is static and not public", Modifier.isStatic(modifiers)
                    && !Modifier.isPublic(modifiers) && !Modifier.isProtected(modifiers));
            for (Method method : inside.getDeclaredMethods()) {
                DUE.holds(method + " has a name of its own", !names.contains(method.getName()));
                DUE.holds(method + " takes seven at most", method.getParameterCount() <= 7);
            }
            DUE.holds(inside + " has some twenty fields", inside.getDeclaredFields().length <= 24);
        }
        DUE.holds("some twelve classes", DoorStars.class.getDeclaredClasses().length <= 11);
        DUE.finish();
    }
}
