import java.io.IOException;
import java.lang.reflect.Array;
import java.lang.reflect.Field;
import java.lang.reflect.Method;
import java.lang.reflect.Modifier;
import java.nio.file.Files;
import java.nio.file.Path;
import java.util.Collections;
import java.util.HashSet;
import java.util.IdentityHashMap;
import java.util.List;
import java.util.Set;
import java.util.regex.Matcher;
import java.util.regex.Pattern;

/** The rules of ../shared/LANGUAGE.md that can be looked at from outside: names, sizes, and what the text holds. */
public final class RulesTest {
    private static final String SOURCE = "src/main/java/LeavesObject.java";
    /** Of these one run's room holds thousands: 600,000 objects and arrays, 7.3 million fields and elements. */
    private static final int MOST_OBJECTS = 200, MOST_ELEMENTS = 4000;

    private static int wrong = 0;

    private static void must(String rule, boolean kept) {
        if (!kept) {
            wrong++;
            System.out.println("not kept: " + rule);
        }
    }

    /** That the face is the document's is looked at in FaceTest. */
    private static void names() {
        Set<String> names = new HashSet<>();
        for (Method method : LeavesObject.class.getDeclaredMethods()) {
            if (Modifier.isPublic(method.getModifiers())) {
                names.add(method.getName());
            }
        }
        for (Method method : LeavesObject.class.getDeclaredMethods()) {
            boolean isPrivate = Modifier.isPrivate(method.getModifiers());
            must("1: " + method.getName() + " is public or private", isPrivate || Modifier.isPublic(method.getModifiers()));
            must("1: private " + method.getName() + " bears a public name", !isPrivate || !names.contains(method.getName()));
        }
        for (Field field : LeavesObject.class.getDeclaredFields()) {
            boolean isFace = List.of("NONE", "BAD", "STATE", "FULL", "NO").contains(field.getName());
            must("1: " + field.getName(), isFace ? Modifier.isPublic(field.getModifiers()) : Modifier.isPrivate(field.getModifiers()));
        }
        for (Class<?> inside : LeavesObject.class.getDeclaredClasses()) {
            must("2: " + inside + " is static", Modifier.isStatic(inside.getModifiers()));
            for (Method method : inside.getDeclaredMethods()) {
                must("1: " + inside + " has a " + method.getName(), !names.contains(method.getName()));
            }
        }
    }

    private static void sizes(Class<?> type) {
        int fields = 0;
        for (Field field : type.getDeclaredFields()) {
            boolean isStatic = Modifier.isStatic(field.getModifiers());
            must("5: " + field + " is final", !isStatic || Modifier.isFinal(field.getModifiers()));
            fields += isStatic ? 0 : 1;
        }
        must("11: at most 20 fields in " + type, fields <= 20);
        for (Method method : type.getDeclaredMethods()) {
            must("11: at most seven parameters of " + method, method.getParameterCount() <= 7);
        }
        for (Class<?> inside : type.getDeclaredClasses()) {
            sizes(inside);
        }
    }

    private static String withoutCommentsAndTexts(String source) {
        return source.replaceAll("(?s)/\\*.*?\\*/", "").replaceAll("//[^\n]*", "").replaceAll("\"[^\"\n]*\"", "\"\"");
    }

    private static void words(String source) {
        String[] none = {"\\bthrow", "\\btry\\b", "\\bcatch\\b", "\\bsynchronized\\b", "\\bassert\\b", "->", "::", "@",
            "Exact\\b", "\\.equals\\b", "hashCode", "toString", "\\bSystem\\.(?!arraycopy\\b)", "\\bObject\\b",
            "\\bprotected\\b", "\\bThread\\b", "\\bvar\\b", "\\bwhile \\(true\\)", "\\bfor \\(;;", "\"\" \\+", "\\+ \"\""};
        for (String word : none) {
            Matcher found = Pattern.compile(word).matcher(source);
            must("4, 6, 9, 10, 13: no " + word, !found.find());
        }
        Matcher imports = Pattern.compile("(?m)^import (.*);").matcher(source);
        while (imports.find()) {
            must("4: import " + imports.group(1), imports.group(1).equals("java.util.Arrays"));
        }
        must("1: no package", !Pattern.compile("(?m)^package").matcher(source).find());
        for (int i = 0; i < source.length(); i++) {
            must("4: signs are 1 to 127", source.charAt(i) > 0 && source.charAt(i) < 128);
        }
    }

    private static int objects = 0;
    private static int elements = 0;

    private static void countAll(Object one, Set<Object> seen) throws IllegalAccessException {
        if (one == null || !seen.add(one)) {
            return;
        }
        objects++;
        if (one.getClass().isArray()) {
            elements += Array.getLength(one);
            for (int i = 0; i < Array.getLength(one) && !one.getClass().getComponentType().isPrimitive(); i++) {
                countAll(Array.get(one, i), seen);
            }
            return;
        }
        for (Field field : one.getClass().getDeclaredFields()) {
            if (!Modifier.isStatic(field.getModifiers())) {
                field.setAccessible(true);
                elements++;
                countAll(field.getType().isPrimitive() ? null : field.get(one), seen);
            }
        }
    }

    /** All that an object is ever made of: TreesTest looks that no call makes anything. */
    private static void room() throws IllegalAccessException {
        countAll(new LeavesObject(), Collections.newSetFromMap(new IdentityHashMap<>()));
        must("12: an object is made of " + objects + " objects and arrays", objects <= MOST_OBJECTS);
        must("12: an object is made of " + elements + " fields and elements", elements <= MOST_ELEMENTS);
    }

    public static void main(String[] args) throws IOException, IllegalAccessException {
        names();
        sizes(LeavesObject.class);
        room();
        words(withoutCommentsAndTexts(Files.readString(Path.of(SOURCE))));
        System.out.println(wrong == 0 ? "rules: all that were looked at are kept" : wrong + " are not kept");
        if (wrong != 0) {
            System.exit(1);
        }
    }
}
