import java.lang.reflect.Constructor;
import java.lang.reflect.Field;
import java.lang.reflect.Method;
import java.lang.reflect.Modifier;
import java.util.ArrayList;
import java.util.List;
import java.util.Set;
import java.util.TreeSet;

/** The public face: its constants, its constructor, its methods, and just these. */
public final class FaceTest {
    private static int wrong = 0;

    private static final String[] METHODS = {
        "int pass(int)", "int vessel(int,int,int,int)", "int part(int,int,int,int,int,int)",
        "int shape(int,int,int,int,int)", "int sheet(int,int)", "boolean entry(int,int)",
        "int measure(int,int,int)", "int patch(int,int,int,int,int,int)", "int plate(int,int,int,int)",
        "int plug(int,int,int,int)", "int valve(int,int,int,int)", "int set(int,int,int,int)",
        "int paper(int,int,int,int,int)", "int rule(int,int,int)", "int undo()", "int status()",
        "int count(int,int)", "int thick(int,int,int,int,int)", "int doubts(int,int,int,int)",
        "int bears(int,int,int,int)", "int weakest(int,int,int)", "int holds(int,int,int,int)",
        "int due(int,int,int,int)", "int why(int,int,int)", "int may(int,int,int)", "int until(int,int,int)",
        "int when(int,int,int,int)", "int check(int,int,int,int,int)", "int list(int,int)",
        "int listed(int,int)", "int image()", "int imageAt(int)", "int feed(int,int,int,int,int)",
        "boolean end(int)", "int again()", "int restore()",
    };

    private static void due(String what, Object got, Object want) {
        if (!want.equals(got)) {
            wrong++;
            System.out.println(what + " is " + got + ", due is " + want);
        }
    }

    private static String told(Method method) {
        StringBuilder text = new StringBuilder(method.getReturnType() + " " + method.getName() + "(");
        Class<?>[] types = method.getParameterTypes();
        for (int i = 0; i < types.length; i++) {
            text.append(i == 0 ? "" : ",").append(types[i]);
        }
        return text.append(")").toString();
    }

    private static void methods() {
        Set<String> open = new TreeSet<>();
        Set<String> names = new TreeSet<>();
        for (Method method : BoilerRoll.class.getDeclaredMethods()) {
            if (Modifier.isPublic(method.getModifiers())) {
                open.add(told(method));
                names.add(method.getName());
                due(method + " is static", Modifier.isStatic(method.getModifiers()), false);
            }
        }
        due("methods", open, new TreeSet<>(List.of(METHODS)));
        List<Class<?>> all = new ArrayList<>(List.of(BoilerRoll.class.getDeclaredClasses()));
        all.add(BoilerRoll.class);
        for (Class<?> one : all) {
            for (Method method : one.getDeclaredMethods()) {
                boolean ofFace = Modifier.isPublic(method.getModifiers()) && one == BoilerRoll.class;
                boolean hidden = Modifier.isPrivate(method.getModifiers()) || one != BoilerRoll.class;
                due("whether " + method + " is of the face or hidden", ofFace || hidden, true);
                boolean named = Modifier.isPrivate(method.getModifiers()) && names.contains(method.getName());
                due("whether " + method + " is private and bears a name of the face", named, false);
            }
        }
    }

    private static void fields() {
        Set<String> open = new TreeSet<>();
        for (Field field : BoilerRoll.class.getDeclaredFields()) {
            if (!Modifier.isPrivate(field.getModifiers())) {
                open.add(Modifier.toString(field.getModifiers()) + " " + field.getType() + " " + field.getName());
            }
        }
        due("constants", open, new TreeSet<>(List.of("public static final int NONE", "public static final int RANGE",
                "public static final int STATE", "public static final int FULL")));
    }

    public static void main(String[] args) {
        due("NONE", BoilerRoll.NONE, -1);
        due("RANGE", BoilerRoll.RANGE, -2);
        due("STATE", BoilerRoll.STATE, -3);
        due("FULL", BoilerRoll.FULL, -4);
        due("modifiers", Modifier.toString(BoilerRoll.class.getModifiers()), "public final");
        Constructor<?>[] constructors = BoilerRoll.class.getDeclaredConstructors();
        due("constructors", constructors.length, 1);
        due("constructor", constructors[0].toString(), "public BoilerRoll()");
        methods();
        fields();
        System.out.println(wrong == 0 ? "all is as due" : wrong + " are not as due");
        if (wrong != 0) {
            System.exit(1);
        }
    }
}
