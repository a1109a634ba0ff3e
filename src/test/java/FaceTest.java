import java.io.IOException;
import java.lang.reflect.Constructor;
import java.lang.reflect.Field;
import java.lang.reflect.Method;
import java.lang.reflect.Modifier;
import java.nio.file.Files;
import java.nio.file.Path;
import java.util.List;
import java.util.Set;
import java.util.TreeSet;
import java.util.regex.Pattern;

// The class has the document's face and nothing else that can be seen from outside, and its source
// keeps to what a look at words can tell of LANGUAGE.md.
public final class FaceTest {
    private static final Set<String> FACE = Set.of(
        "int set(int,int,int)", "int get(int,int)", "int degree(int)", "int sign(int,long,int)",
        "int between(int,long,int,long,int)", "int roots(int)", "int isolate(int)", "int level(int)",
        "long cell(int)", "int exact(int)", "int multiplicity(int)", "int signAt(int)", "int common()",
        "int divisor()", "int derive()", "int times(int)", "int shift(int)", "int swap()");
    private static final Set<String> CONSTANTS = Set.of("NONE", "BAD", "ZERO", "TIGHT", "FULL");
    private static final List<String> FORBIDDEN = List.of(
        "\\bimport\\s+(?!java\\.util\\.(ArrayList|List|Arrays|Iterator|NoSuchElementException);)", "\\bpackage\\b",
        "\\bcatch\\s*\\(\\s*(ArrayIndexOutOfBounds|NullPointer|ClassCast|NegativeArraySize|ArrayStore)?"
            + "(Exception|Throwable|Error)\\b",
        "\\bfinally\\b", "\\bsynchronized\\b", "\\bassert\\b", "(?m)^(?!\\s*(case|default)\\b).*->", "::",
        "Exact\\(", "\\bBig(Integer|Decimal)\\b", "\\bSystem\\.(?!arraycopy)", "\\bThread\\b", "\\bRandom\\b");

    private static int wrong = 0;

    private static void fault(String what) {
        wrong++;
        System.out.println(what);
    }

    private static void methods() {
        Set<String> seen = new TreeSet<>();
        Set<String> names = new TreeSet<>();
        for (Method method : RootIsolator.class.getDeclaredMethods()) {
            if (Modifier.isPrivate(method.getModifiers())) {
                continue;
            }
            StringBuilder text = new StringBuilder();
            for (Class<?> type : method.getParameterTypes()) {
                text.append(text.length() == 0 ? "" : ",").append(type.getName());
            }
            seen.add(method.getReturnType().getName() + " " + method.getName() + "(" + text + ")");
            names.add(method.getName());
        }
        if (!seen.equals(FACE)) {
            fault("the methods are " + seen);
        }
        for (Class<?> inside : RootIsolator.class.getDeclaredClasses()) {
            if (Modifier.isPublic(inside.getModifiers()) || Modifier.isProtected(inside.getModifiers())) {
                fault(inside + " can be seen from outside");
            }
            privateNames(inside, names);
        }
        privateNames(RootIsolator.class, names);
    }

    private static void privateNames(Class<?> type, Set<String> names) {
        for (Method method : type.getDeclaredMethods()) {
            if (Modifier.isPrivate(method.getModifiers()) && names.contains(method.getName())) {
                fault(method + " bears a public method's name");
            }
        }
    }

    private static void fields() {
        Set<String> seen = new TreeSet<>();
        for (Field field : RootIsolator.class.getDeclaredFields()) {
            int modifiers = field.getModifiers();
            if (Modifier.isStatic(modifiers) && !Modifier.isFinal(modifiers)) {
                fault(field + " is static and can change");
            }
            if (!Modifier.isPrivate(modifiers)) {
                seen.add(field.getName());
            }
            if (Modifier.isPublic(modifiers) && field.getType() != int.class) {
                fault(field + " is no int");
            }
        }
        if (!seen.equals(CONSTANTS)) {
            fault("the fields that can be seen are " + seen);
        }
        int[] values = {RootIsolator.NONE, RootIsolator.BAD, RootIsolator.ZERO, RootIsolator.TIGHT, RootIsolator.FULL};
        for (int k = 0; k < values.length; k++) {
            if (values[k] != -1 - k) {
                fault("constant " + k + " is " + values[k]);
            }
        }
    }

    private static void type() {
        int modifiers = RootIsolator.class.getModifiers();
        if (!Modifier.isPublic(modifiers) || !Modifier.isFinal(modifiers)) {
            fault("the class is not public and final");
        }
        Constructor<?>[] constructors = RootIsolator.class.getDeclaredConstructors();
        if (constructors.length != 1 || !Modifier.isPublic(constructors[0].getModifiers())
            || constructors[0].getParameterCount() != 0) {
            fault("the constructor is not the document's");
        }
    }

    private static void source() throws IOException {
        String text = Files.readString(Path.of("src/main/java/RootIsolator.java"));
        String code = text.replaceAll("(?s)/\\*.*?\\*/", "").replaceAll("//[^\n]*", "");
        for (String word : FORBIDDEN) {
            if (Pattern.compile(word).matcher(code).find()) {
                fault("the source has " + word);
            }
        }
    }

    public static void main(String[] args) throws IOException {
        type();
        methods();
        fields();
        source();
        System.out.println(wrong == 0 ? "the face is as due" : wrong + " faults of the face");
        if (wrong != 0) {
            System.exit(1);
        }
    }
}
