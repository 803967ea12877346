import java.io.IOException;
import java.lang.reflect.Array;
import java.lang.reflect.Field;
import java.lang.reflect.InvocationTargetException;
import java.lang.reflect.Method;
import java.nio.file.Files;
import java.nio.file.Path;
import java.util.HashMap;
import java.util.Map;

/** What the tests share: how an answer is looked at, and how an object is brought somewhere. */
abstract class Checks {
    static final int NONE = -1, BAD = -2, STATE = -3, FULL = -4, NOT_SO = -5;
    static final int NOTHING = -11, CAST = -12, PLACE = -13, SIZE = -14;
    static final long NO = Long.MIN_VALUE;
    static final int MIN = Integer.MIN_VALUE, MAX = Integer.MAX_VALUE;

    private static final Map<String, Method> FACE = new HashMap<>();
    private static String document = "";
    private static String about = "";
    private static int wrong = 0;

    static {
        for (Method method : LeavesObject.class.getDeclaredMethods()) {
            FACE.put(method.getName(), method);
        }
    }

    // ---- what is looked at

    static void about(String what) {
        about = what;
    }

    static void wrong(String what) {
        wrong++;
        System.out.println(about + ": " + what);
    }

    static void due(String call, long got, long want) {
        if (got != want) {
            wrong(call + " answered " + got + ", due is " + want);
        }
    }

    /** What follows looks at this sentence, which must stand in the document just so. */
    static void sentence(String words) throws IOException {
        if (document.isEmpty()) {
            document = Files.readString(Path.of("../shared/DOC.md")).replaceAll("\\s+", " ");
        }
        about("\"" + words + "\"");
        if (!document.contains(words)) {
            wrong("the document does not say so");
        }
    }

    static void end(String name) {
        System.out.println(name + (wrong == 0 ? ": all answers are as due" : ": " + wrong + " answers are not as due"));
        if (wrong != 0) {
            System.exit(1);
        }
    }

    // ---- calls written as texts: "cup(0, 3, 12)"

    static long call(LeavesObject x, String call) throws ReflectiveOperationException {
        int open = call.indexOf('(');
        Method method = FACE.get(call.substring(0, open));
        String inside = call.substring(open + 1, call.length() - 1).trim();
        String[] words = inside.isEmpty() ? new String[0] : inside.split(",\\s*");
        Object[] numbers = new Object[words.length];
        for (int i = 0; i < words.length; i++) {
            boolean isLong = method.getParameterTypes()[i] == long.class;
            numbers[i] = isLong ? (Object) Long.valueOf(words[i]) : (Object) Integer.valueOf(words[i]);
        }
        try {
            return ((Number) method.invoke(x, numbers)).longValue();
        } catch (InvocationTargetException thrown) {
            wrong(call + " threw " + thrown.getCause());
            return NO;
        }
    }

    static void answers(LeavesObject x, long want, String... calls) throws ReflectiveOperationException {
        for (String call : calls) {
            due(call, call(x, call), want);
        }
    }

    // ---- objects brought somewhere

    /** LEAVES in these CELLS. */
    static int at(int... cells) {
        int bits = 0;
        for (int cell : cells) {
            bits |= 1 << cell;
        }
        return bits;
    }

    static void feed(LeavesObject x, String text) {
        for (int i = 0; i < text.length(); i++) {
            due("feed of " + text, x.feed(text.charAt(i)), x.count(5));
        }
    }

    static int innOf(LeavesObject x, String text) {
        feed(x, text);
        return x.inn();
    }

    static LeavesObject with(String inn) {
        LeavesObject x = new LeavesObject();
        due("inn of " + inn, innOf(x, inn), 0);
        return x;
    }

    static LeavesObject cups(int... kindsAndLeaves) {
        LeavesObject x = new LeavesObject();
        add(x, kindsAndLeaves);
        return x;
    }

    static void add(LeavesObject x, int... kindsAndLeaves) {
        for (int i = 0; i < kindsAndLeaves.length; i += 2) {
            int number = x.count(0);
            due("cup", x.cup(kindsAndLeaves[i], 0, kindsAndLeaves[i + 1]), number);
        }
    }

    private static Object fieldOf(Object holder, String name) throws ReflectiveOperationException {
        Field field = holder.getClass().getDeclaredField(name);
        field.setAccessible(true);
        return field.get(holder);
    }

    /** No 512 calls bring REFUSED to 9999: so it is put there from behind. */
    static void putRefused(LeavesObject x, int cup, int refused) throws ReflectiveOperationException {
        Object slot = Array.get(fieldOf(fieldOf(x, "now"), "slots"), cup);
        Field field = slot.getClass().getDeclaredField("refused");
        field.setAccessible(true);
        field.setInt(slot, refused);
    }

    /** No act runs more than twelve bodies: so some are begun from behind, numbered as they come. */
    static void beginBodies(LeavesObject x, int many) throws ReflectiveOperationException {
        Object acts = fieldOf(x, "acts");
        Method begin = acts.getClass().getDeclaredMethod("begin", int.class);
        begin.setAccessible(true);
        for (int i = 0; i < many; i++) {
            begin.invoke(acts, i);
        }
    }
}
