import java.lang.reflect.Constructor;
import java.lang.reflect.Field;
import java.lang.reflect.Method;
import java.lang.reflect.Modifier;
import java.util.Set;
import java.util.TreeSet;

/** The public face: each constant, the constructor and each method of the document, and no other. */
public final class FaceTest {
    private static final String[] METHODS = {"write(int,long)", "wipe()", "fault()", "lay()", "bather(int,int)", "drawn(int,int)",
        "bath(int,boolean,int)", "row(int,int)", "hot(int)", "plan(int,boolean)", "evening(int,int,int)", "score(int,int)",
        "left(int,int)", "best(int)", "swapped()", "when(int,int)", "fewest(int,int)", "bigger(int,int)", "tap(int,int,int,int)",
        "tenths(int,int)", "told(int,int,int)", "looks(int)", "keep()", "back()", "count(int)"};

    public static void main(String[] args) throws Exception {
        Class<?> face = BathNight.class;
        Check.due("public final", face.getModifiers() & (Modifier.PUBLIC | Modifier.FINAL), Modifier.PUBLIC | Modifier.FINAL);
        constants(face);
        methods(face);
        Constructor<?>[] made = face.getDeclaredConstructors();
        Check.due("constructors", made.length, 1);
        Check.due("public, without a parameter", Modifier.isPublic(made[0].getModifiers()) ? made[0].getParameterCount() : -1, 0);
        for (Class<?> inside : face.getDeclaredClasses()) {
            Check.due(inside + " is static and not public", Modifier.isStatic(inside.getModifiers())
                && !Modifier.isPublic(inside.getModifiers()) ? 1 : 0, 1);
            state(inside);
        }
        state(face);
        Check.end();
    }

    private static void constants(Class<?> face) throws Exception {
        String[] names = {"BAD", "NO", "FULL", "NONE"};
        for (int k = 0; k < names.length; k++) {
            Check.due(names[k], face.getField(names[k]).getInt(null), -1 - k);
        }
        for (Field field : face.getDeclaredFields()) {
            boolean told = Set.of(names).contains(field.getName());
            Check.due(field + " is to be seen", Modifier.isPrivate(field.getModifiers()) ? 0 : 1, told ? 1 : 0);
        }
    }

    private static void methods(Class<?> face) {
        Set<String> due = new TreeSet<>(Set.of(METHODS));
        Set<String> names = new TreeSet<>();
        for (String method : METHODS) {
            names.add(method.substring(0, method.indexOf('(')));
        }
        for (Method method : face.getDeclaredMethods()) {
            StringBuilder s = new StringBuilder(method.getName()).append('(');
            for (Class<?> type : method.getParameterTypes()) {
                s.append(s.charAt(s.length() - 1) == '(' ? "" : ",").append(type.getName());
            }
            String form = s.append(')').toString();
            if (Modifier.isPrivate(method.getModifiers())) {
                Check.due(form + " bears the name of a public one", names.contains(method.getName()) ? 1 : 0, 0);
            } else {
                Check.due(form + " is of the face", due.remove(form) && method.getReturnType() == int.class ? 1 : 0, 1);
            }
        }
        Check.due("methods that lack: " + due, due.size(), 0);
    }

    /** No state but the object's own; no more fields than LANGUAGE.md lets a class have. */
    private static void state(Class<?> one) {
        int fields = 0;
        for (Field field : one.getDeclaredFields()) {
            if (Modifier.isStatic(field.getModifiers())) {
                Check.due(field + " is final", Modifier.isFinal(field.getModifiers()) ? 1 : 0, 1);
            } else {
                fields++;
            }
        }
        Check.due(one + " has few fields", fields <= 20 ? 1 : 0, 1);
    }
}
