import java.lang.reflect.Constructor;
import java.lang.reflect.Field;
import java.lang.reflect.Method;
import java.lang.reflect.Modifier;
import java.util.Arrays;
import java.util.Set;
import java.util.TreeSet;

/** The public face: just the document's members, with its signatures and exceptions. */
public final class FaceTest {
    private static final String[] FACE = {
        "int type(char) IllegalArgumentException IllegalStateException",
        "int escape(int,boolean) IllegalArgumentException IllegalStateException",
        "int word(int) IndexOutOfBoundsException IllegalStateException",
        "int drop() NoSuchElementException",
        "int wipe()",
        "int length()",
        "char signAt(int) IndexOutOfBoundsException",
        "int parse(int) IndexOutOfBoundsException IllegalStateException",
        "int refusals()",
        "int refusedAt() NoSuchElementException",
        "boolean isTold() NoSuchElementException",
        "boolean isThere(int) IndexOutOfBoundsException",
        "boolean isAbsolute(int) IndexOutOfBoundsException NoSuchElementException",
        "boolean isOpaque(int) IndexOutOfBoundsException NoSuchElementException",
        "int port(int) IndexOutOfBoundsException NoSuchElementException",
        "int size(int,char) IndexOutOfBoundsException IllegalArgumentException NoSuchElementException",
        "char partSign(int,char,int) IndexOutOfBoundsException IllegalArgumentException NoSuchElementException",
        "int begin(int,char) IndexOutOfBoundsException IllegalArgumentException NoSuchElementException",
        "int append(int,char) IndexOutOfBoundsException IllegalArgumentException NoSuchElementException "
                + "IllegalStateException",
        "int copy(int,int) IndexOutOfBoundsException",
        "int alike(int,int) IndexOutOfBoundsException NoSuchElementException",
        "boolean together(int) IndexOutOfBoundsException NoSuchElementException",
        "int mix(int,int,char) IndexOutOfBoundsException NoSuchElementException IllegalArgumentException "
                + "UnsupportedOperationException IllegalStateException",
        "boolean isTrue()",
        "long checksum()"};

    public static void main(String[] args) {
        Set<String> names = new TreeSet<>();
        Set<String> face = new TreeSet<>();
        for (Method method : Linkloom.class.getDeclaredMethods()) {
            if (!Modifier.isPrivate(method.getModifiers())) {
                Due.due(method + " is public", Modifier.isPublic(method.getModifiers()), true);
                names.add(method.getName());
                face.add(signature(method));
            }
        }
        Due.due("the face", face.toString(), new TreeSet<>(Arrays.asList(FACE)).toString());
        for (Constructor<?> made : Linkloom.class.getDeclaredConstructors()) {
            Due.due("the constructor", made.toString(), "public Linkloom()");
        }
        for (Field field : Linkloom.class.getDeclaredFields()) {
            Due.due(field + " is private", Modifier.isPrivate(field.getModifiers()), true);
        }
        Due.due("the class is final", Modifier.isFinal(Linkloom.class.getModifiers()), true);
        nested(names);
        Due.end("FaceTest");
    }

    private static void nested(Set<String> names) {
        for (Class<?> inside : Linkloom.class.getDeclaredClasses()) {
            Due.due(inside + " is static", Modifier.isStatic(inside.getModifiers()), true);
            Due.due(inside + " is private", Modifier.isPrivate(inside.getModifiers()), true);
            for (Method method : inside.getDeclaredMethods()) {
                Due.due(method + " bears a name of the face", names.contains(method.getName()), false);
            }
        }
    }

    private static String signature(Method method) {
        StringBuilder signature = new StringBuilder();
        signature.append(method.getReturnType()).append(' ').append(method.getName()).append('(');
        String between = "";
        for (Class<?> type : method.getParameterTypes()) {
            signature.append(between).append(type);
            between = ",";
        }
        signature.append(')');
        for (Class<?> thrown : method.getExceptionTypes()) {
            signature.append(' ').append(thrown.getSimpleName());
        }
        return signature.toString();
    }
}
