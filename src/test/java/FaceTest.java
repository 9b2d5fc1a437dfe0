import java.lang.reflect.Constructor;
import java.lang.reflect.Field;
import java.lang.reflect.Method;
import java.lang.reflect.Modifier;
import java.util.ArrayList;
import java.util.List;
import java.util.Set;
import java.util.TreeSet;

/** The public face is the document's, whole, and no more; rules 1 and 5 of LANGUAGE.md as far as reflection sees them. */
public final class FaceTest {
    private static final String[] FACE = {
        "int about(int)", "int band(int,int)", "int between(int,int,int,int,boolean)", "int clear(int)",
        "int counted(int,int,int)", "int event(int,int)", "int extreme(boolean)", "int gap(int)", "int holds(int)",
        "int level(int,int,int,int,boolean)", "int limit(int,boolean,int)", "int make(int,boolean)",
        "int mark(int,boolean)", "int open(int,boolean)", "int order(int)", "int part(int,int)", "int reset(int)",
        "int scan()", "int shown(int)", "int since(int,int,int)", "int stale(int)", "int stands(int,int,int)",
        "int take(int,int)", "int trip(int,int)", "int tripped(int)", "int votes(int)"};
    private static final Due due = new Due("FaceTest");

    public static void main(String[] args) {
        Class<?> type = TripPanel.class;
        due.holds(Modifier.isPublic(type.getModifiers()) && Modifier.isFinal(type.getModifiers()), "public and final");
        due.holds(type.getSuperclass() == Object.class && type.getInterfaces().length == 0, "no class or interface above");
        due.is(-1, TripPanel.NONE, "NONE");
        due.is(2000000000, TripPanel.GAP, "GAP");
        constructors(type);
        methods(type);
        fields(type);
        nested(type);
        due.end();
    }

    private static void constructors(Class<?> type) {
        Constructor<?>[] all = type.getDeclaredConstructors();
        due.is(1, all.length, "constructors");
        due.holds(Modifier.isPublic(all[0].getModifiers()) && all[0].getParameterCount() == 0, "public TripPanel()");
    }

    private static void methods(Class<?> type) {
        Set<String> face = new TreeSet<>();
        Set<String> faceNames = new TreeSet<>();
        for (Method method : type.getDeclaredMethods()) {
            if (!Modifier.isPrivate(method.getModifiers())) {
                due.holds(Modifier.isPublic(method.getModifiers()) && !Modifier.isStatic(method.getModifiers()), method.toString());
                face.add(signature(method));
                faceNames.add(method.getName());
            }
        }
        due.holds(face.equals(new TreeSet<>(List.of(FACE))), "the document's methods, found " + face);
        for (Method method : type.getDeclaredMethods()) {
            if (Modifier.isPrivate(method.getModifiers())) {
                due.holds(!faceNames.contains(method.getName()), "no private method bears a public name: " + method);
            }
        }
    }

    private static String signature(Method method) {
        List<String> parameters = new ArrayList<>();
        for (Class<?> parameter : method.getParameterTypes()) {
            parameters.add(parameter.getName());
        }
        return method.getReturnType().getName() + " " + method.getName() + "(" + String.join(",", parameters) + ")";
    }

    private static void fields(Class<?> type) {
        for (Field field : type.getDeclaredFields()) {
            boolean constant = field.getName().equals("NONE") || field.getName().equals("GAP");
            int modifiers = field.getModifiers();
            due.holds(constant ? Modifier.isPublic(modifiers) : Modifier.isPrivate(modifiers), field.toString());
            due.holds(!Modifier.isStatic(modifiers) || Modifier.isFinal(modifiers), "static fields are final: " + field);
        }
    }

    private static void nested(Class<?> type) {
        due.holds(type.getDeclaredClasses().length <= 12, "some twelve classes");
        for (Class<?> inside : type.getDeclaredClasses()) {
            int modifiers = inside.getModifiers();
            due.holds(Modifier.isStatic(modifiers) && !Modifier.isPublic(modifiers) && !Modifier.isProtected(modifiers), inside.toString());
            for (Field field : inside.getDeclaredFields()) {
                due.holds(!Modifier.isStatic(field.getModifiers()) || Modifier.isFinal(field.getModifiers()), field.toString());
            }
        }
    }
}
