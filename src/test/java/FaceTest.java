import java.lang.reflect.Constructor;
import java.lang.reflect.Field;
import java.lang.reflect.Method;
import java.lang.reflect.Modifier;
import java.util.Arrays;
import java.util.HashSet;
import java.util.Set;
import java.util.TreeSet;

/** The face is that of the document, and nothing else can be seen from outside. */
public final class FaceTest {
    private static final String[] DUE = {
        "int append(int,int,int,int,int) IllegalStateException",
        "int truncate(int) IndexOutOfBoundsException",
        "int load() IllegalArgumentException",
        "int errorCode()",
        "int errorPosition()",
        "int find() NoSuchElementException",
        "int count(int) IllegalArgumentException",
        "int outlet(int,int) IndexOutOfBoundsException IllegalArgumentException",
        "int known(int,int) IndexOutOfBoundsException IllegalArgumentException",
        "int needs(int,boolean) IndexOutOfBoundsException",
        "int outletsWith(int,boolean) IllegalArgumentException",
        "int rights()",
        "int load(int) IllegalArgumentException",
        "double strain()",
        "int message(int,int) IndexOutOfBoundsException IllegalArgumentException",
        "int traffic(int,boolean) IllegalArgumentException",
        "int learned(int) IndexOutOfBoundsException",
        "int grants()",
        "int why(int) IndexOutOfBoundsException",
        "int runsIn(int) IndexOutOfBoundsException NoSuchElementException",
        "int allIn(int) IllegalArgumentException NoSuchElementException",
        "int peakIn(int,int) IllegalArgumentException",
        "int sentIn(int,int) IllegalArgumentException",
        "int run(int) IllegalArgumentException IllegalStateException",
        "int blackout(int) IllegalArgumentException",
        "boolean want(int,boolean) IndexOutOfBoundsException",
        "int setFuse(int) IllegalArgumentException",
        "int setPriority(int,int) IndexOutOfBoundsException IllegalArgumentException",
        "int forget()",
        "int undo() IllegalStateException",
        "void save(int) IndexOutOfBoundsException",
        "void restore(int) IndexOutOfBoundsException NoSuchElementException",
    };

    public static void main(String[] args) {
        Class<BlackoutStart> face = BlackoutStart.class;
        Set<String> seen = new TreeSet<>();
        Set<String> names = new HashSet<>();
        for (Method method : face.getDeclaredMethods()) {
            if (!Modifier.isPrivate(method.getModifiers())) {
                seen.add(told(method));
                names.add(method.getName());
            }
        }
        Check.same("methods", new TreeSet<>(Arrays.asList(DUE)), seen);
        for (Class<?> type : inside(face)) {
            for (Method method : type.getDeclaredMethods()) {
                boolean isFace = type == face && !Modifier.isPrivate(method.getModifiers());
                Check.same("name of " + method, isFace, names.contains(method.getName()));
                Check.same("at most seven parameters of " + method, true, method.getParameterCount() <= 7);
            }
            int fields = 0;
            for (Field field : type.getDeclaredFields()) {
                fields += Modifier.isStatic(field.getModifiers()) ? 0 : 1;
                boolean isStatic = Modifier.isStatic(field.getModifiers());
                Check.same("final " + field, true, !isStatic || Modifier.isFinal(field.getModifiers()));
            }
            Check.same("at most twenty fields in " + type, true, fields <= 20);
        }
        for (Field field : face.getDeclaredFields()) {
            Check.same("private " + field, !field.getName().equals("NONE"), Modifier.isPrivate(field.getModifiers()));
        }
        for (Constructor<?> constructor : face.getDeclaredConstructors()) {
            Check.same("constructor", "public BlackoutStart()", constructor.toString());
        }
        Check.same("at most twelve classes", true, inside(face).size() <= 12);
        Check.same("final", true, Modifier.isFinal(face.getModifiers()));
        Check.end("FaceTest");
    }

    private static Set<Class<?>> inside(Class<?> face) {
        Set<Class<?>> all = new HashSet<>();
        all.add(face);
        all.addAll(Arrays.asList(face.getDeclaredClasses()));
        return all;
    }

    private static String told(Method method) {
        StringBuilder told = new StringBuilder(method.getReturnType().getSimpleName());
        told.append(' ').append(method.getName()).append('(');
        String comma = "";
        for (Class<?> type : method.getParameterTypes()) {
            told.append(comma).append(type.getSimpleName());
            comma = ",";
        }
        told.append(')');
        for (Class<?> type : method.getExceptionTypes()) {
            told.append(' ').append(type.getSimpleName());
        }
        return told.toString();
    }
}
