import java.lang.reflect.Constructor;
import java.lang.reflect.Field;
import java.lang.reflect.Method;
import java.lang.reflect.Modifier;
import java.util.Set;
import java.util.TreeSet;

/** The public face, and LANGUAGE.md's rules 1, 5 and 11 as far as reflection tells. */
public final class FaceTest {
    private static final String[] FACE = {
        "int build(int)", "int addStation(int)", "int addChute(int,int,int,int,int,int)", "int feed(char)",
        "int addPlan()", "int plan(int,int)", "int route(int,int,int)", "int arrive(int,int,int,int)",
        "int find(int,int)", "int parcel(int,int)", "int carried(int)", "int run(int)",
        "boolean setClosed(int,boolean)", "int clear(int)", "int chute(int,int)", "int station(int,int)",
        "int count(int)", "double meanRounds()", "int foresee(int,int,boolean)", "int untilEmpty(int)",
        "boolean audit()", "int ledger(int,int)", "int undo()", "int saveSnapshot()", "int restoreSnapshot()",
        "int write(int)", "char paper(int)"};

    public static void main(String[] args) {
        Class<?> type = ParcelSorter.class;
        Check.same("public and final", Modifier.PUBLIC | Modifier.FINAL, type.getModifiers());
        Set<String> due = new TreeSet<>(Set.of(FACE));
        Set<String> names = new TreeSet<>();
        Set<String> got = new TreeSet<>();
        for (Method method : type.getDeclaredMethods()) {
            if (Modifier.isPublic(method.getModifiers())) {
                got.add(signature(method));
                names.add(method.getName());
            }
        }
        Check.same("the face", due.toString(), got.toString());
        for (Method method : type.getDeclaredMethods()) {
            if (!Modifier.isPublic(method.getModifiers())) {
                Check.yes("private: " + method, Modifier.isPrivate(method.getModifiers()));
                Check.no("a public name: " + method, names.contains(method.getName()));
            }
        }
        for (Constructor<?> constructor : type.getDeclaredConstructors()) {
            Check.same("the constructor", "public ParcelSorter()", constructor.toString());
        }
        inside(type, names);
        Check.end();
    }

    private static void inside(Class<?> type, Set<String> names) {
        fields(type);
        Check.yes("classes", type.getDeclaredClasses().length < 12);
        for (Class<?> inner : type.getDeclaredClasses()) {
            Check.yes("private and static: " + inner, Modifier.isPrivate(inner.getModifiers())
                && Modifier.isStatic(inner.getModifiers()));
            for (Method method : inner.getDeclaredMethods()) {
                Check.no("a public name: " + method, names.contains(method.getName()));
                Check.yes("parameters: " + method, method.getParameterCount() <= 7);
            }
            int own = 0;
            for (Field field : inner.getDeclaredFields()) {
                own += Modifier.isStatic(field.getModifiers()) ? 0 : 1;
            }
            Check.yes("fields: " + inner, own <= 20);
        }
    }

    private static void fields(Class<?> type) {
        for (Field field : type.getDeclaredFields()) {
            Check.yes("private: " + field, Modifier.isPrivate(field.getModifiers()));
            if (Modifier.isStatic(field.getModifiers())) {
                Check.yes("final: " + field, Modifier.isFinal(field.getModifiers()));
            }
        }
    }

    private static String signature(Method method) {
        StringBuilder text = new StringBuilder(method.getReturnType() + " " + method.getName() + "(");
        String comma = "";
        for (Class<?> parameter : method.getParameterTypes()) {
            text.append(comma).append(parameter);
            comma = ",";
        }
        return text.append(")").toString();
    }
}
