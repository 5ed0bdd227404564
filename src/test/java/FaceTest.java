import java.io.IOException;
import java.lang.reflect.Constructor;
import java.lang.reflect.Executable;
import java.lang.reflect.Field;
import java.lang.reflect.Method;
import java.lang.reflect.Modifier;
import java.lang.reflect.Parameter;
import java.nio.file.Files;
import java.nio.file.Path;
import java.util.Arrays;
import java.util.List;
import java.util.Set;
import java.util.TreeSet;
import java.util.regex.Matcher;
import java.util.regex.Pattern;
import java.util.stream.Collectors;

/** Compares the face of the class with the document's, and looks for what LANGUAGE.md rules out. */
public final class FaceTest {
    private static final List<String> RULED_OUT = List.of(
        "->", "::", "\\bcatch\\b", "\\bfinally\\b", "\\bsynchronized\\b", "\\bassert\\b", "\\bprotected\\b", "\\bMap\\b",
        "\\w+Exact\\b", "\\bvar\\b", "System\\.(?!arraycopy)", "\\bObject\\b", "\\bThread\\b", "\\bstatic\\s*\\{");

    private int wrong = 0;

    public static void main(String[] args) throws IOException {
        Path root = Path.of(args.length == 0 ? "." : args[0]);
        FaceTest test = new FaceTest();
        test.compareFaces(Files.readString(root.resolve("../shared/DOC.md")));
        test.lookAtMembers();
        test.lookAtSource(Files.readString(root.resolve("src/main/java/UnsaidVerdicts.java")));
        System.out.println(test.wrong == 0 ? "the face is the document's" : test.wrong + " faults of the face");
        System.exit(test.wrong == 0 ? 0 : 1);
    }

    private void wrong(String what) {
        wrong++;
        System.out.println(what);
    }

    private void compareFaces(String document) {
        Set<String> due = new TreeSet<>();
        Matcher block = Pattern.compile("```java\n(.*?)```", Pattern.DOTALL).matcher(document);
        if (!block.find()) {
            wrong("the document has no face");
            return;
        }
        for (String line : block.group(1).split("\n")) {
            if (line.startsWith("    public ")) {
                due.add(line.strip());
            }
        }
        Set<String> found = new TreeSet<>();
        for (Constructor<?> c : UnsaidVerdicts.class.getDeclaredConstructors()) {
            found.add(told(c, "UnsaidVerdicts"));
        }
        for (Method m : UnsaidVerdicts.class.getDeclaredMethods()) {
            if (!Modifier.isPrivate(m.getModifiers())) {
                found.add(told(m, m.getReturnType().getSimpleName() + " " + m.getName()));
            }
        }
        // reflection knows no names of parameters here, so they are left out on both sides
        due = due.stream().map(line -> line.replaceAll("(int|char|boolean) \\w+([,)])", "$1$2"))
            .collect(Collectors.toCollection(TreeSet::new));
        if (!due.equals(found)) {
            wrong("the faces differ: due " + due + ", found " + found);
        }
    }

    private static String told(Executable member, String name) {
        String parameters = Arrays.stream(member.getParameters()).map(Parameter::getType).map(Class::getSimpleName)
            .collect(Collectors.joining(", "));
        String thrown = Arrays.stream(member.getExceptionTypes()).map(Class::getSimpleName)
            .collect(Collectors.joining(", "));
        return Modifier.toString(member.getModifiers()) + " " + name + "(" + parameters + ")"
            + (thrown.isEmpty() ? "" : " throws " + thrown) + ";";
    }

    private void lookAtMembers() {
        Class<?> face = UnsaidVerdicts.class;
        if (!Modifier.isFinal(face.getModifiers()) || !Modifier.isPublic(face.getModifiers())) {
            wrong("the class is not public and final");
        }
        Set<String> names = new TreeSet<>();
        for (Method m : face.getDeclaredMethods()) {
            if (Modifier.isPublic(m.getModifiers())) {
                names.add(m.getName());
            }
        }
        lookAtClass(face, names);
        for (Class<?> inner : face.getDeclaredClasses()) {
            lookAtClass(inner, names);
            if (!Modifier.isStatic(inner.getModifiers())) {
                wrong(inner + " is not static");
            }
        }
        if (face.getDeclaredClasses().length > 11) {
            wrong("there are more than twelve classes");
        }
    }

    private void lookAtClass(Class<?> looked, Set<String> faceNames) {
        int fields = 0;
        for (Field field : looked.getDeclaredFields()) {
            boolean isStatic = Modifier.isStatic(field.getModifiers());
            fields += isStatic ? 0 : 1;
            if (isStatic && !Modifier.isFinal(field.getModifiers())) {
                wrong(field + " is static and not final");
            }
            if (looked == UnsaidVerdicts.class && !Modifier.isPrivate(field.getModifiers())) {
                wrong(field + " is not private");
            }
        }
        if (fields > 20) {
            wrong(looked + " has " + fields + " fields");
        }
        for (Method m : looked.getDeclaredMethods()) {
            if (!Modifier.isPublic(m.getModifiers()) && faceNames.contains(m.getName())) {
                wrong(m + " bears a name of the face");
            }
            if (m.getParameterCount() > 7) {
                wrong(m + " has too many parameters");
            }
        }
    }

    private void lookAtSource(String source) {
        String code = source.replaceAll("(?s)/\\*.*?\\*/", "").replaceAll("//[^\n]*", "");
        for (String ruledOut : RULED_OUT) {
            if (Pattern.compile(ruledOut).matcher(code).find()) {
                wrong("the class has " + ruledOut);
            }
        }
        Set<String> imports = new TreeSet<>();
        Matcher found = Pattern.compile("import ([\\w.*]+);").matcher(code);
        while (found.find()) {
            imports.add(found.group(1));
        }
        if (!imports.equals(Set.of("java.util.NoSuchElementException"))) {
            wrong("the class imports " + imports);
        }
        if (source.chars().anyMatch(c -> c > 126)) {
            wrong("the class has a sign above 126");
        }
    }
}
