import java.io.IOException;
import java.lang.reflect.Constructor;
import java.lang.reflect.Field;
import java.lang.reflect.Method;
import java.lang.reflect.Modifier;
import java.nio.file.Files;
import java.nio.file.Path;
import java.util.ArrayList;
import java.util.Collections;
import java.util.List;
import java.util.Set;
import java.util.TreeSet;
import java.util.regex.Matcher;
import java.util.regex.Pattern;

/** The face of the class is that of the document and nothing else (LANGUAGE.md, rules 1 and 5). */
public final class FaceTest {
    private static final String SIGNATURE = "(\\w+ \\w+\\([^)]*\\)(?: throws [^;`]+)?)";

    public static void main(String[] args) throws IOException {
        String doc = Files.readString(Path.of("../shared/DOC.md"));
        List<String> due = signatures(doc, "(?m)^    public " + SIGNATURE + ";$");
        Due.is("methods in the document's face", due.size(), 24);
        Due.is("each has its promise", signatures(doc, "(?m)^`" + SIGNATURE + "`$").toString(), due.toString());
        Class<?> face = Greenwheels.class;
        Due.is("the class", Modifier.toString(face.getModifiers()), "public final");
        Due.is("no package", face.getPackageName(), "");
        Due.is("constructors", face.getDeclaredConstructors().length, 1);
        Constructor<?> made = face.getDeclaredConstructors()[0];
        Due.is("the constructor", Modifier.isPublic(made.getModifiers()) && made.getParameterCount() == 0, true);
        Due.is("the constructor throws nothing", made.getExceptionTypes().length, 0);
        List<String> told = new ArrayList<>();
        Set<String> names = new TreeSet<>();
        for (Method method : face.getDeclaredMethods()) {
            if (!Modifier.isPrivate(method.getModifiers())) {
                told.add(signature(method));
                names.add(method.getName());
                Due.is(method.getName() + " is", Modifier.toString(method.getModifiers()), "public");
            }
        }
        Collections.sort(told);
        Collections.sort(due);
        Due.is("the methods", told.toString(), due.toString());
        privateMembers(face, names);
        for (Class<?> inside : face.getDeclaredClasses()) {
            int modifiers = inside.getModifiers();
            Due.is(inside + " is inside", Modifier.isStatic(modifiers) && !Modifier.isPublic(modifiers), true);
            privateMembers(inside, names);
        }
        Due.end();
    }

    /** As the document writes them, but without the names of parameters. */
    private static List<String> signatures(String doc, String pattern) {
        List<String> found = new ArrayList<>();
        Matcher matcher = Pattern.compile(pattern).matcher(doc);
        while (matcher.find()) {
            found.add(matcher.group(1).replaceAll("(int|boolean|long) \\w+(?=[,)])", "$1"));
        }
        return found;
    }

    private static void privateMembers(Class<?> where, Set<String> faceNames) {
        for (Field field : where.getDeclaredFields()) {
            int modifiers = field.getModifiers();
            if (where == Greenwheels.class) {
                Due.is(field + " is private", Modifier.isPrivate(modifiers), true);
            }
            Due.is(field + " is no open static", Modifier.isStatic(modifiers) && !Modifier.isFinal(modifiers), false);
        }
        for (Method method : where.getDeclaredMethods()) {
            if (where != Greenwheels.class || Modifier.isPrivate(method.getModifiers())) {
                Due.is(method + " bears no name of the face", faceNames.contains(method.getName()), false);
            }
            Due.is(method + " has seven parameters at most", method.getParameterCount() <= 7, true);
        }
    }

    private static String signature(Method method) {
        String text = method.getReturnType().getSimpleName() + " " + method.getName()
                + "(" + joined(method.getParameterTypes()) + ")";
        Class<?>[] thrown = method.getExceptionTypes();
        return thrown.length == 0 ? text : text + " throws " + joined(thrown);
    }

    private static String joined(Class<?>[] types) {
        List<String> names = new ArrayList<>();
        for (Class<?> type : types) {
            names.add(type.getSimpleName());
        }
        return String.join(", ", names);
    }
}
