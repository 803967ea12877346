import java.io.IOException;
import java.lang.reflect.Field;
import java.lang.reflect.Method;
import java.lang.reflect.Modifier;
import java.nio.file.Files;
import java.nio.file.Path;
import java.util.Set;
import java.util.TreeSet;
import java.util.regex.Matcher;
import java.util.regex.Pattern;

/** What the document says ahead of its Terms and around its calls: the face, the constants, the 512 calls. */
public final class FaceTest extends Checks {
    private static final String DOCUMENT = "../shared/DOC.md", SOURCE = "src/main/java/LeavesObject.java";

    // ---- the public face, as the document shows it

    private static String faceInDocument() throws IOException {
        Matcher block = Pattern.compile("(?s)```java\n(.*?)```").matcher(Files.readString(Path.of(DOCUMENT)));
        return block.find() ? block.group(1) : "";
    }

    private static Set<String> callsInDocument() throws IOException {
        Set<String> calls = new TreeSet<>();
        Matcher call = Pattern.compile("public (int|long) (\\w+)\\((.*?)\\);").matcher(faceInDocument());
        while (call.find()) {
            calls.add(call.group(1) + " " + call.group(2) + "(" + call.group(3).replaceAll(" \\w+(?=,|$)", "") + ")");
        }
        return calls;
    }

    private static Set<String> callsOfClass() {
        Set<String> calls = new TreeSet<>();
        for (Method method : LeavesObject.class.getDeclaredMethods()) {
            if (Modifier.isPublic(method.getModifiers())) {
                StringBuilder types = new StringBuilder();
                for (Class<?> type : method.getParameterTypes()) {
                    types.append(types.length() == 0 ? "" : ", ").append(type.getName());
                }
                calls.add(method.getReturnType() + " " + method.getName() + "(" + types + ")");
                due(method.getName() + " has no modifier but public", method.getModifiers(), Modifier.PUBLIC);
            }
        }
        return calls;
    }

    private static void calls() throws IOException {
        about("The public face");
        Set<String> due = callsInDocument();
        Set<String> got = callsOfClass();
        due("how many calls", got.size(), 36);
        if (!got.equals(due)) {
            wrong("the calls are " + got + ", due are " + due);
        }
    }

    private static void shape() {
        about("The public face");
        due("constructors", LeavesObject.class.getDeclaredConstructors().length, 1);
        due("of one constructor", LeavesObject.class.getDeclaredConstructors()[0].getParameterCount(), 0);
        due("it is public", LeavesObject.class.getDeclaredConstructors()[0].getModifiers(), Modifier.PUBLIC);
        due("public final class", LeavesObject.class.getModifiers(), Modifier.PUBLIC | Modifier.FINAL);
        due("it is under no class of its own", LeavesObject.class.getSuperclass() == Object.class ? 1 : 0, 1);
        due("it implements nothing", LeavesObject.class.getInterfaces().length, 0);
        due("classes inside that are public", LeavesObject.class.getClasses().length, 0);
    }

    private static Set<String> constantsInDocument() throws IOException {
        Set<String> constants = new TreeSet<>();
        Matcher row = Pattern.compile("public static final (int|long) (.*?);").matcher(faceInDocument());
        while (row.find()) {
            for (String constant : row.group(2).split(", ")) {
                constants.add(row.group(1) + " " + constant.replace("Long.MIN_VALUE", "" + Long.MIN_VALUE));
            }
        }
        return constants;
    }

    private static void constants() throws IOException, IllegalAccessException {
        sentence("`NO = Long.MIN_VALUE`: There is no such number.");
        Set<String> got = new TreeSet<>();
        for (Field field : LeavesObject.class.getFields()) {
            got.add(field.getType() + " " + field.getName() + " = " + field.get(null));
            due(field.getName(), field.getModifiers(), Modifier.PUBLIC | Modifier.STATIC | Modifier.FINAL);
        }
        due("how many constants", got.size(), 5);
        if (!got.equals(constantsInDocument())) {
            wrong("the constants are " + got + ", due are " + constantsInDocument());
        }
    }

    /** "Ahead of the calls `cup`, .. the interface says: ---- cups, inns." */
    private static void headings() throws IOException {
        String source = Files.readString(Path.of(SOURCE));
        Matcher said = Pattern.compile("Ahead of the calls (.*?) the interface says: (---- .*)\\.").matcher(
            Files.readString(Path.of(DOCUMENT)));
        int headings = 0;
        while (said.find()) {
            about(said.group());
            headings++;
            int begin = source.indexOf("    // " + said.group(2) + "\n");
            int end = source.indexOf("    // ---- ", begin + 1);
            StringBuilder calls = new StringBuilder();
            Matcher call = Pattern.compile("    public \\w+ (\\w+)\\(").matcher(source).region(Math.max(begin, 0), Math.max(end, 0));
            while (call.find()) {
                calls.append(calls.length() == 0 ? "`" : ", `").append(call.group(1)).append('`');
            }
            if (!calls.toString().equals(said.group(1))) {
                wrong("the class says so ahead of " + calls);
            }
        }
        about("Ahead of the calls");
        due("how many headings", headings, 6);
    }

    // ---- 512 calls

    /** Seven calls. */
    private static LeavesObject some() {
        LeavesObject x = cups(0, 33, 6, 7, 5, 4095);
        x.set(0, 1, 6);
        x.see(2, 66);
        x.evening(0, 0);
        x.book(1, 7);
        return x;
    }

    private static void sameFor512Calls(String... calls) throws ReflectiveOperationException {
        for (String call : calls) {
            LeavesObject x = some();
            long first = call(x, call);
            for (int made = 9; made <= 512; made++) {
                due(call + ", call " + made, call(x, call), first);
            }
        }
    }

    private static void lastOfSayings() {
        LeavesObject x = cups(0, at(0, 4), 3, at(8));
        for (int made = 3; made <= 511; made++) {
            due("say(0, 2), call " + made, x.say(0, 2), 1);
        }
        due("of(0, 2), the 512th call", x.of(0, 2), at(1, 5));
    }

    private static void lastOfNights() {
        LeavesObject x = new LeavesObject();
        for (int made = 1; made <= 512; made++) {
            due("pass(1), call " + made, x.pass(1), made);
        }
    }

    private static void lastOfImages() {
        LeavesObject x = cups(2, at(3), 1, 0);
        for (int made = 3; made <= 507; made += 4) {
            due("image(), call " + made, x.image(), 2);
            due("set(0, 0, 5)", x.set(0, 0, 5), at(3));
            due("undo()", x.undo(), 2);
            due("of(0, 2)", x.of(0, 2), at(3));
        }
        due("say(0, 0)", x.say(0, 0), 1);
        due("of(0, 2), the 512th call", x.of(0, 2), at(2, 3));
    }

    private static void lastOfTapes() {
        LeavesObject x = new LeavesObject();
        for (int made = 1; made <= 510; made += 3) {
            due("tape(5, 1, 60), call " + made, x.tape(5, 1, 60), 1);
            due("item(5, 59, " + made + ")", x.item(5, 59, made), 1);
            due("shift(5, 1, 5, 0, 59)", x.shift(5, 1, 5, 0, 59), 59);
        }
        due("read(5, 58)", x.read(5, 58), 508);
        due("read(5, 57), the 512th call", x.read(5, 57), 0);
    }

    private static void usedFor512Calls() throws IOException, ReflectiveOperationException {
        sentence("An object is used for at most 512 calls after it has been made; what later calls answer is free.");
        sameFor512Calls("of(0, 10)", "of(1, 21)", "told(0)", "told(3)", "told(4)", "told(5)", "told(6)", "after(0, 0, 1)");
        sameFor512Calls("comes(1, 4095, -1)", "comes(2, 0, 3)", "near(0, 1365, -1)", "near(2, 0, 2)", "fullest(0)");
        sameFor512Calls("firstNo(2, 3)", "show(103)", "next(0)", "moods(0, 0)", "moods(1, 1)", "can(0, 0)", "can(2, 1)");
        sameFor512Calls("odds(1, 3, 0)", "mean(0)", "mean(1)", "ends(0)", "ends(1)", "looked()", "judge(0, 0)", "image()");
        sameFor512Calls("act(1, 2, 77)", "trace(0)", "taken(1, 3)", "taken(0, 1)", "count(0)", "read(0, 0)", "undo()");
        sameFor512Calls("cup(7, 0, 0)", "set(9, 0, 0)", "line(0, 0, 0)", "feed(-1)", "say(0, 4)", "pass(0)", "see(-1, 0)");
        sameFor512Calls("evening(-1, 0)", "book(-1, 0)", "tape(2, 3, 60)", "item(2, 0, 1)", "shift(0, 0, 1, 0, 0)", "inn()");
        lastOfSayings();
        lastOfNights();
        lastOfImages();
        lastOfTapes();
    }

    public static void main(String[] args) throws Exception {
        calls();
        shape();
        constants();
        headings();
        usedFor512Calls();
        end("face");
    }
}
