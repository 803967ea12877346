import java.io.IOException;
import java.lang.reflect.Field;
import java.lang.reflect.Method;
import java.lang.reflect.Modifier;
import java.nio.file.Files;
import java.nio.file.Path;
import java.util.HashSet;
import java.util.List;
import java.util.Set;
import java.util.TreeSet;
import java.util.regex.Matcher;
import java.util.regex.Pattern;

/** The rules of ../shared/LANGUAGE.md that can be looked at from outside: the face, and what the text holds. */
public final class RulesTest {
    private static final String SOURCE = "src/main/java/LeavesObject.java";
    private static final String FACE = "cup(int,int,int):int of(int,int):int set(int,int,int):int line(int,int,int):int"
        + " feed(int):int inn():int told(int):int say(int,int):int pass(int):int after(int,int,int):int"
        + " comes(int,int,int):int near(int,int,int):int fullest(int):int firstNo(int,int):int show(int):int"
        + " next(int):int see(int,int):int moods(int,int):int can(int,int):int odds(int,int,int):long"
        + " mean(int):long evening(int,int):int ends(int):int book(int,int):int looked():int judge(int,int):int"
        + " image():int undo():int act(int,int,int):int trace(int):int taken(int,int):int count(int):int"
        + " tape(int,int,int):int item(int,int,long):int read(int,int):long shift(int,int,int,int,int):int";

    private static int wrong = 0;

    private static void must(String rule, boolean kept) {
        if (!kept) {
            wrong++;
            System.out.println("not kept: " + rule);
        }
    }

    private static String faceOf(Method method) {
        StringBuilder face = new StringBuilder(method.getName()).append('(');
        for (Class<?> type : method.getParameterTypes()) {
            face.append(face.charAt(face.length() - 1) == '(' ? "" : ",").append(type.getName());
        }
        return face.append("):").append(method.getReturnType().getName()).toString();
    }

    private static void face() {
        Set<String> publics = new TreeSet<>();
        Set<String> names = new HashSet<>();
        for (Method method : LeavesObject.class.getDeclaredMethods()) {
            if (Modifier.isPublic(method.getModifiers())) {
                publics.add(faceOf(method));
                names.add(method.getName());
                must("1: " + method.getName() + " is of the object", !Modifier.isStatic(method.getModifiers()));
            }
        }
        must("1: the methods are the document's: " + publics, publics.equals(new TreeSet<>(List.of(FACE.split(" ")))));
        must("1: one constructor", LeavesObject.class.getDeclaredConstructors().length == 1);
        must("1: the class is public and final", LeavesObject.class.getModifiers() == (Modifier.PUBLIC | Modifier.FINAL));
        for (Method method : LeavesObject.class.getDeclaredMethods()) {
            boolean isPrivate = Modifier.isPrivate(method.getModifiers());
            must("1: " + method.getName() + " is public or private", isPrivate || Modifier.isPublic(method.getModifiers()));
            must("1: private " + method.getName() + " bears a public name", !isPrivate || !names.contains(method.getName()));
        }
        for (Field field : LeavesObject.class.getDeclaredFields()) {
            boolean isFace = List.of("NONE", "BAD", "STATE", "FULL", "NO").contains(field.getName());
            must("1: " + field.getName(), isFace ? Modifier.isPublic(field.getModifiers()) : Modifier.isPrivate(field.getModifiers()));
        }
        for (Class<?> inside : LeavesObject.class.getDeclaredClasses()) {
            must("2: " + inside + " is static", Modifier.isStatic(inside.getModifiers()));
            for (Method method : inside.getDeclaredMethods()) {
                must("1: " + inside + " has a " + method.getName(), !names.contains(method.getName()));
            }
        }
    }

    private static void sizes(Class<?> type) {
        int fields = 0;
        for (Field field : type.getDeclaredFields()) {
            boolean isStatic = Modifier.isStatic(field.getModifiers());
            must("5: " + field + " is final", !isStatic || Modifier.isFinal(field.getModifiers()));
            fields += isStatic ? 0 : 1;
        }
        must("11: at most 20 fields in " + type, fields <= 20);
        for (Method method : type.getDeclaredMethods()) {
            must("11: at most seven parameters of " + method, method.getParameterCount() <= 7);
        }
        for (Class<?> inside : type.getDeclaredClasses()) {
            sizes(inside);
        }
    }

    private static String withoutCommentsAndTexts(String source) {
        return source.replaceAll("(?s)/\\*.*?\\*/", "").replaceAll("//[^\n]*", "").replaceAll("\"[^\"\n]*\"", "\"\"");
    }

    private static void words(String source) {
        String[] none = {"\\bthrow", "\\btry\\b", "\\bcatch\\b", "\\bsynchronized\\b", "\\bassert\\b", "->", "::", "@",
            "Exact\\b", "\\.equals\\b", "hashCode", "toString", "\\bSystem\\.(?!arraycopy\\b)", "\\bObject\\b",
            "\\bprotected\\b", "\\bThread\\b", "\\bvar\\b", "\\bwhile \\(true\\)", "\\bfor \\(;;", "\"\" \\+", "\\+ \"\""};
        for (String word : none) {
            Matcher found = Pattern.compile(word).matcher(source);
            must("4, 6, 9, 10, 13: no " + word, !found.find());
        }
        Matcher imports = Pattern.compile("(?m)^import (.*);").matcher(source);
        while (imports.find()) {
            must("4: import " + imports.group(1), imports.group(1).equals("java.util.Arrays"));
        }
        must("1: no package", !Pattern.compile("(?m)^package").matcher(source).find());
        for (int i = 0; i < source.length(); i++) {
            must("4: signs are 1 to 127", source.charAt(i) > 0 && source.charAt(i) < 128);
        }
    }

    /** So a run makes nothing but what its constructors make. */
    private static void makesOnlyInConstructors(List<String> lines) {
        boolean inConstructor = false;
        String end = "";
        for (String line : lines) {
            if (line.matches("\\s+(public |private )?[A-Z]\\w*\\([^)]*\\) \\{")) {
                inConstructor = true;
                end = line.replaceAll("\\S.*", "") + "}";
            } else if (line.equals(end)) {
                inConstructor = false;
            }
            boolean isField = line.matches("\\s+(private )?final .* = new .*;");
            must("12: made in a constructor: " + line, !line.matches(".*\\bnew\\b.*") || inConstructor || isField);
        }
    }

    private static void methodLengths(List<String> lines) {
        for (String indent : new String[] {"    ", "        "}) {
            int begin = -1;
            for (int i = 0; i < lines.size(); i++) {
                String line = lines.get(i);
                if (line.matches(indent + "\\S.*\\) \\{")) {
                    begin = i;
                }
                if (line.equals(indent + "}") && begin >= 0) {
                    must("11: a short method: " + lines.get(begin).trim(), i - begin <= 60);
                    begin = -1;
                }
            }
        }
    }

    public static void main(String[] args) throws IOException {
        face();
        sizes(LeavesObject.class);
        must("11: at most twelve classes", LeavesObject.class.getDeclaredClasses().length < 12);
        String source = withoutCommentsAndTexts(Files.readString(Path.of(SOURCE)));
        words(source);
        makesOnlyInConstructors(source.lines().toList());
        methodLengths(source.lines().toList());
        System.out.println(wrong == 0 ? "rules: all that were looked at are kept" : wrong + " are not kept");
        if (wrong != 0) {
            System.exit(1);
        }
    }
}
