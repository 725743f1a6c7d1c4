import java.io.IOException;
import java.lang.reflect.Constructor;
import java.lang.reflect.Executable;
import java.lang.reflect.Field;
import java.lang.reflect.Method;
import java.lang.reflect.Modifier;
import java.nio.file.Files;
import java.nio.file.Path;
import java.util.ArrayList;
import java.util.List;
import java.util.Set;
import java.util.TreeSet;
import java.util.regex.Matcher;
import java.util.regex.Pattern;

/** The face that the document writes out, and the rules of LANGUAGE.md that show in the class or in its words. */
public final class FaceTest {
    private static final Path DOCUMENT = Path.of("../shared/DOC.md");
    private static final Path SOURCE = Path.of("src/main/java/Spritehall.java");
    private static final int MOST_PARAMETERS = 7, MOST_CLASSES = 12, MOST_FIELDS = 20, MOST_LINES = 60;

    private static final Pattern FACE = Pattern.compile("^```java\n(public final class Spritehall .*?)^```$",
            Pattern.DOTALL | Pattern.MULTILINE);
    private static final Pattern CONSTANTS = Pattern.compile("(public static final int) (.*);");
    private static final Pattern CALL = Pattern.compile("(public [\\w ]+)\\((.*?)\\)( throws .*)?;");
    private static final Pattern METHOD = Pattern.compile("^( +)\\w[^\n;]*\\)(\\s+throws [^{;]*)?\\s*\\{\n(.*?)^\\1\\}$",
            Pattern.DOTALL | Pattern.MULTILINE);
    private static final Pattern IMPORT = Pattern.compile("^import (.*);$", Pattern.MULTILINE);
    private static final Pattern NOT_CODE = Pattern.compile("//[^\n]*|/\\*.*?\\*/|\"[^\"\n]*\"", Pattern.DOTALL);

    private static final Checks checks = new Checks();

    public static void main(String[] args) throws IOException {
        theFaceIsThatOfTheDocument();
        List<Class<?>> classes = classesIn(Spritehall.class);
        checks.due("few classes", true, classes.size() <= MOST_CLASSES);
        for (Class<?> one : classes) {
            membersKeepTheRules(one);
        }
        noPrivateNameIsPublic();
        String source = Files.readString(SOURCE);
        wordsKeepTheRules(source);
        methodsAreShort(source);
        checks.end();
    }

    // ---- the face

    private static void theFaceIsThatOfTheDocument() throws IOException {
        Matcher face = FACE.matcher(Files.readString(DOCUMENT));
        checks.due("the document writes out a face", true, face.find());
        Set<String> want = new TreeSet<>();
        for (String line : face.group(1).split("\n")) {
            addMembers(line.trim(), want);
        }
        Set<String> got = membersSeen();
        for (String member : want) {
            checks.due("there is " + member, true, got.contains(member));
        }
        for (String member : got) {
            checks.due("the document has " + member, true, want.contains(member));
        }
        checks.due("the class is public and final", Modifier.PUBLIC | Modifier.FINAL, Spritehall.class.getModifiers());
        checks.due("it is of no other class", true, Spritehall.class.getSuperclass() == Object.class);
        checks.due("it is of no interface", 0, Spritehall.class.getInterfaces().length);
        checks.due("it has no package", true, Spritehall.class.getPackageName().isEmpty());
    }

    /** The members of a line of the document's face, without the names of parameters. */
    private static void addMembers(String line, Set<String> members) {
        Matcher constants = CONSTANTS.matcher(line);
        Matcher call = CALL.matcher(line);
        if (constants.matches()) {
            for (String constant : constants.group(2).split(", ")) {
                members.add(constants.group(1) + " " + constant);
            }
        } else if (call.matches()) {
            String types = call.group(2).replaceAll(" \\w+(,|$)", "$1");
            String thrown = call.group(3) == null ? "" : call.group(3);
            members.add(call.group(1) + "(" + types + ")" + thrown);
        }
    }

    private static Set<String> membersSeen() {
        Set<String> members = new TreeSet<>();
        for (Field field : Spritehall.class.getDeclaredFields()) {
            if (isSeen(field.getModifiers(), field.isSynthetic())) {
                members.add(Modifier.toString(field.getModifiers()) + " " + field.getType() + " " + field.getName()
                        + " = " + valueOf(field));
            }
        }
        for (Constructor<?> constructor : Spritehall.class.getDeclaredConstructors()) {
            if (isSeen(constructor.getModifiers(), constructor.isSynthetic())) {
                members.add(told(constructor, Spritehall.class.getSimpleName()));
            }
        }
        for (Method method : Spritehall.class.getDeclaredMethods()) {
            if (isSeen(method.getModifiers(), method.isSynthetic())) {
                members.add(told(method, method.getReturnType() + " " + method.getName()));
            }
        }
        return members;
    }

    private static boolean isSeen(int modifiers, boolean isSynthetic) {
        return !Modifier.isPrivate(modifiers) && !isSynthetic;
    }

    private static Object valueOf(Field field) {
        try {
            return Modifier.isStatic(field.getModifiers()) ? field.get(null) : "";
        } catch (IllegalAccessException e) {
            return e;
        }
    }

    private static String told(Executable call, String name) {
        return Modifier.toString(call.getModifiers()) + " " + name + "(" + names(call.getParameterTypes()) + ")"
                + (call.getExceptionTypes().length == 0 ? "" : " throws " + names(call.getExceptionTypes()));
    }

    private static String names(Class<?>[] types) {
        List<String> names = new ArrayList<>();
        for (Class<?> type : types) {
            names.add(type.getSimpleName());
        }
        return String.join(", ", names);
    }

    // ---- rules that show in the classes

    private static List<Class<?>> classesIn(Class<?> outer) {
        List<Class<?>> classes = new ArrayList<>();
        classes.add(outer);
        for (Class<?> inner : outer.getDeclaredClasses()) {
            int modifiers = inner.getModifiers();
            checks.due(inner + " is hidden", false, Modifier.isPublic(modifiers) || Modifier.isProtected(modifiers));
            checks.due(inner + " is static", true, Modifier.isStatic(modifiers));
            checks.due(inner + " is no exception", false, Throwable.class.isAssignableFrom(inner));
            classes.addAll(classesIn(inner));
        }
        return classes;
    }

    private static void membersKeepTheRules(Class<?> one) {
        int fields = 0;
        for (Field field : one.getDeclaredFields()) {
            boolean isStatic = Modifier.isStatic(field.getModifiers());
            checks.due(field + " is final if it is static", true, !isStatic || Modifier.isFinal(field.getModifiers()));
            fields += isStatic ? 0 : 1;
        }
        checks.due(one + " has few fields", true, fields <= MOST_FIELDS);
        for (Method method : one.getDeclaredMethods()) {
            checks.due(method + " has few parameters", true, method.getParameterCount() <= MOST_PARAMETERS);
            checks.due(method + " is none of Object", false,
                    Set.of("equals", "hashCode", "toString", "finalize").contains(method.getName()));
        }
        for (Constructor<?> constructor : one.getDeclaredConstructors()) {
            checks.due(constructor + " has few parameters", true, constructor.getParameterCount() <= MOST_PARAMETERS);
        }
    }

    private static void noPrivateNameIsPublic() {
        Set<String> ofPublic = new TreeSet<>();
        for (Method method : Spritehall.class.getMethods()) {
            ofPublic.add(method.getName());
        }
        for (Method method : Spritehall.class.getDeclaredMethods()) {
            if (!Modifier.isPublic(method.getModifiers())) {
                checks.due(method + " bears a public name", false, ofPublic.contains(method.getName()));
            }
        }
    }

    // ---- rules that show in the words

    private static void wordsKeepTheRules(String source) {
        Set<String> allowed = Set.of("java.util.ArrayList", "java.util.List", "java.util.Arrays", "java.util.Iterator",
                "java.util.NoSuchElementException");
        Matcher imports = IMPORT.matcher(source);
        while (imports.find()) {
            checks.due("import " + imports.group(1), true, allowed.contains(imports.group(1)));
        }
        for (int i = 0; i < source.length(); i++) {
            if (source.charAt(i) > 126) {
                checks.fail("the sign " + (int) source.charAt(i) + " at " + i);
            }
        }
        String code = NOT_CODE.matcher(source).replaceAll(" ");
        for (String word : new String[] {"package", "synchronized", "assert", "finally", "volatile", "native", "yield",
            "hashCode", "toString", "getMessage", "Object", "Thread", "Random"}) {
            checks.due("the word " + word, false, Pattern.compile("\\b" + word + "\\b").matcher(code).find());
        }
        for (String sign : new String[] {"->", "::", "static {", "@", "java.", "Exact("}) {
            checks.due("the sign " + sign, false, code.replaceAll("(?m)^import .*$", "").contains(sign));
        }
    }

    // Where the pattern takes an if or a loop of a method for one more method, that is only shorter.
    private static void methodsAreShort(String source) {
        Matcher methods = METHOD.matcher(source);
        int found = 0;
        while (methods.find()) {
            found++;
            long lines = methods.group(3).lines().count();
            String head = methods.group().split("\n")[0].trim();
            checks.due("the lines of " + head + " are few", true, lines <= MOST_LINES);
        }
        checks.due("methods are found", true, found > Spritehall.class.getDeclaredMethods().length);
    }
}
