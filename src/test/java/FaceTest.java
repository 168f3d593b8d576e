import java.lang.reflect.Constructor;
import java.lang.reflect.Field;
import java.lang.reflect.Method;
import java.lang.reflect.Modifier;
import java.util.Set;
import java.util.TreeSet;

/** The face of the class is that of the document and nothing else (LANGUAGE.md, rules 1 and 5). */
public final class FaceTest {
    private static final String I = "IndexOutOfBoundsException";
    private static final String A = "IllegalArgumentException";
    private static final String S = "IllegalStateException";

    private static final String[] DUE = {
        "int wheel(int,int)" + I + A + S, "boolean mesh(int,int)" + I + A, "boolean part(int,int)" + I,
        "int turn(int)" + A + S, "int dial(int,int)" + I + A, "int piece(int,int,int,int)" + I + A + S,
        "int claim(int)" + A + S, "int withdraw(int,boolean)" + I, "long ofAxle(int,int,boolean)" + I + A,
        "int ofWheel(int,int)" + I + A, "long passed(int,boolean)" + I, "long period()", "int pointer(int)" + I,
        "int ofLump(int,int)" + I + A, "int ofClaim(int,int)" + I + A, "int house(int)" + A,
        "String row(int)" + I, "int wouldMesh(int,int)" + I, "int wouldPoint(int,int)" + I + A,
        "int train(int,int,int)" + A, "int best(int,int,int,boolean)" + A, "boolean isSound()", "int knock()",
        "long digest()",
    };

    public static void main(String[] args) {
        Class<?> face = Greenwheels.class;
        Due.is("the class", Modifier.toString(face.getModifiers()), "public final");
        Due.is("constructors", face.getDeclaredConstructors().length, 1);
        Constructor<?> made = face.getDeclaredConstructors()[0];
        Due.is("the constructor", Modifier.isPublic(made.getModifiers()) && made.getParameterCount() == 0, true);
        Set<String> due = new TreeSet<>(Set.of(DUE));
        Set<String> told = new TreeSet<>();
        Set<String> names = new TreeSet<>();
        for (Method method : face.getDeclaredMethods()) {
            if (!Modifier.isPrivate(method.getModifiers())) {
                told.add(signature(method));
                names.add(method.getName());
                Due.is(method.getName() + " is", Modifier.toString(method.getModifiers()), "public");
            }
        }
        Due.is("the methods", told.toString(), due.toString());
        privateMembers(face, names);
        for (Class<?> inside : face.getDeclaredClasses()) {
            int modifiers = inside.getModifiers();
            Due.is(inside + " is inside", Modifier.isStatic(modifiers) && !Modifier.isPublic(modifiers), true);
            privateMembers(inside, names);
        }
        Due.end();
    }

    private static void privateMembers(Class<?> where, Set<String> faceNames) {
        for (Field field : where.getDeclaredFields()) {
            int modifiers = field.getModifiers();
            if (where == Greenwheels.class) {
                Due.is(field + " is private", Modifier.isPrivate(modifiers), true);
            }
            Due.is(field + " is no open static", Modifier.isStatic(modifiers) && !Modifier.isFinal(modifiers), false);
        }
        for (Method method : where.getDeclaredMethods()) {
            if (where != Greenwheels.class || Modifier.isPrivate(method.getModifiers())) {
                Due.is(method + " bears no name of the face", faceNames.contains(method.getName()), false);
            }
            Due.is(method + " has seven parameters at most", method.getParameterCount() <= 7, true);
        }
    }

    private static String signature(Method method) {
        StringBuilder text = new StringBuilder(method.getReturnType().getSimpleName());
        text.append(' ').append(method.getName()).append('(');
        for (Class<?> type : method.getParameterTypes()) {
            text.append(text.charAt(text.length() - 1) == '(' ? "" : ",").append(type.getSimpleName());
        }
        text.append(')');
        for (Class<?> type : method.getExceptionTypes()) {
            text.append(type.getSimpleName());
        }
        return text.toString();
    }
}
