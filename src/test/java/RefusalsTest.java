import java.io.IOException;
import java.lang.reflect.Method;
import java.util.ArrayList;
import java.util.List;
import java.util.Random;

/**
 * What each promise refuses: the last number that is taken and the first that is not, each refusal
 * alone and with each other one at once, and that a refused call, and an asked one, changes nothing.
 *
 * For each call two objects are brought to one state, and one of them gets the call, too: behind it
 * all that can be seen of both must be the same.
 */
public final class RefusalsTest extends Checks {
    private interface State {
        LeavesObject made() throws ReflectiveOperationException;
    }

    // ---- states

    private static final State NEW = LeavesObject::new;
    private static final State SOME = RefusalsTest::some;
    private static final State MOST = RefusalsTest::most;
    private static final State MOST_INNS = RefusalsTest::mostInns;
    private static final State LATE = RefusalsTest::late;
    private static final State REFUSED_MOST = RefusalsTest::refusedMost;

    private static void bring(LeavesObject x, String... calls) throws ReflectiveOperationException {
        for (String call : calls) {
            if (call(x, call) < 0) {
                wrong("no state is made by " + call);
            }
        }
    }

    /** CUPS 0 .. 2 (1 is a TOLD), TAPES of each sort but 5, which holds nothing, and something of all else. */
    private static LeavesObject some() throws ReflectiveOperationException {
        LeavesObject x = with("balk 2 w=0;rise 3;fall 0");
        bring(x, "cup(0, 1, 33)", "cup(6, 2, 8)", "cup(4, 3, 1536)", "set(0, 1, 4)", "set(2, 1, 9)", "say(2, 3)");
        bring(x, "line(1, 0, 5)", "line(1, 2, 9)", "pass(2)", "see(3, 528)", "evening(2, 3)", "evening(5, 9)");
        bring(x, "evening(0, 2)", "book(0, 33)", "book(1, 7)", "image()", "cup(2, 4, 17)", "undo()");
        bring(x, "pass(1)", "set(1, 0, 12)", "set(0, 1, 4)", "set(1, 1, 6)", "line(1, 3, 6)", "see(2, 66)", "book(2, 1)");
        bring(x, "tape(0, 0, 3)", "item(0, 0, 5)", "tape(1, 1, 4)", "item(1, 0, 33)", "item(1, 1, 12)");
        bring(x, "tape(2, 2, 2)", "item(2, 1, 9)", "tape(3, 3, 60)", "item(3, 59, 77)", "tape(4, 4, 3)", "item(4, 2, 1)");
        feed(x, "rise 4;will 1");
        x.act(1, 2, 10);
        return x;
    }

    /** All that has a most is full, but for INNS; the last of each can be seen from outside. */
    private static LeavesObject most() throws ReflectiveOperationException {
        LeavesObject x = with("balk 2 w=0");
        bring(x, "cup(0, 1, 33)", "cup(6, 2, 8)", "cup(4, 3, 1536)", "cup(6, 9, 4095)", "cup(5, 0, 0)", "set(0, 1, 4)");
        for (int i = 0; i < 5; i++) {
            bring(x, i < 4 ? "see(3, 528)" : "see(2, 66)");
        }
        for (int i = 0; i < 10; i++) {
            bring(x, i < 9 ? "evening(5, 0)" : "evening(2, 1)");
        }
        for (int i = 0; i < 8; i++) {
            bring(x, i < 7 ? "book(0, 33)" : "book(1, 8)");
        }
        bring(x, "set(3, 0, 0)", "tape(0, 0, 60)", "item(0, 59, -1)", "tape(1, 1, 60)", "item(1, 59, 33)", "image()", "pass(1)");
        feed(x, "will 11 " + "c=0|".repeat(22) + "c=0&");
        return x;
    }

    private static LeavesObject mostInns() throws ReflectiveOperationException {
        LeavesObject x = cups(0, 33, 3, 7);
        for (int i = 0; i < 6; i++) {
            innOf(x, "rise " + i + ";will " + i + " c=0");
        }
        feed(x, "rise 9;fall");
        return x;
    }

    /** NIGHT 9990. */
    private static LeavesObject late() throws ReflectiveOperationException {
        LeavesObject x = cups(5, 33, 6, 7);
        bring(x, "line(1, 2, 9)", "set(0, 1, 9)");
        for (int i = 0; i < 166; i++) {
            bring(x, "pass(60)");
        }
        bring(x, "pass(30)", "set(0, 1, 9)", "set(1, 1, 5)");
        return x;
    }

    private static LeavesObject refusedMost() throws ReflectiveOperationException {
        LeavesObject x = some();
        putRefused(x, 0, 9999);
        return x;
    }

    // ---- all that can be seen

    private static void look(List<String> seen, LeavesObject x, String call) throws ReflectiveOperationException {
        seen.add(call + " is " + call(x, call));
    }

    private static void lookEach(List<String> seen, LeavesObject x, String name, int last) throws ReflectiveOperationException {
        for (int what = 0; what <= last; what++) {
            look(seen, x, name + "(" + what + ")");
        }
    }

    private static void lookAtCups(List<String> seen, LeavesObject x) throws ReflectiveOperationException {
        lookEach(seen, x, "told", 6);
        for (int cup = 0; cup < x.count(0); cup++) {
            for (int what : new int[] {0, 1, 2, 3, 4, 10, 11, 20, 23}) {
                look(seen, x, "of(" + cup + ", " + what + ")");
            }
            look(seen, x, "moods(" + cup + ", 0)");
        }
        look(seen, x, "looked()");
        lookEach(seen, x, "ends", 1);
    }

    private static void lookAtTapes(List<String> seen, LeavesObject x) throws ReflectiveOperationException {
        for (int tape = 0; tape <= 5; tape++) {
            for (int i : new int[] {0, 1, 2, 3, 59}) {
                look(seen, x, "read(" + tape + ", " + i + ")");
            }
            look(seen, x, "shift(" + tape + ", 0, " + tape + ", 0, 0)");
            look(seen, x, "judge(" + tape + ", 0)");
        }
    }

    /** What can be seen only by a call that changes something, last of all. */
    private static void lookBehind(List<String> seen, LeavesObject x) throws ReflectiveOperationException {
        for (int part = 0; part < 4; part++) {
            look(seen, x, "line(1, " + part + ", 0)");
        }
        look(seen, x, "inn()");
        look(seen, x, "undo()");
        lookAtCups(seen, x);
        look(seen, x, "line(1, 2, 0)");
        look(seen, x, "image()");
    }

    private static List<String> allOf(LeavesObject x) throws ReflectiveOperationException {
        List<String> seen = new ArrayList<>();
        lookEach(seen, x, "count", 6);
        lookEach(seen, x, "trace", 12);
        lookAtCups(seen, x);
        lookAtTapes(seen, x);
        lookBehind(seen, x);
        return seen;
    }

    private static void same(String call, List<String> got, List<String> want) {
        for (int i = 0; i < Math.min(got.size(), want.size()); i++) {
            if (!got.get(i).equals(want.get(i))) {
                wrong("behind " + call + ": " + got.get(i) + ", else " + want.get(i));
                return;
            }
        }
        if (got.size() != want.size()) {
            wrong("behind " + call + " there are more or fewer CUPS");
        }
    }

    /** Each of these calls answers so, and changes nothing. */
    private static void refused(State state, long answer, String... calls) throws ReflectiveOperationException {
        List<String> untouched = allOf(state.made());
        for (String call : calls) {
            LeavesObject x = state.made();
            due(call, call(x, call), answer);
            same(call, allOf(x), untouched);
        }
    }

    /** Each of these calls alone answers so. */
    private static void taken(State state, long answer, String... calls) throws ReflectiveOperationException {
        for (String call : calls) {
            due(call, call(state.made(), call), answer);
        }
    }

    private static void asked(State state, String... calls) throws ReflectiveOperationException {
        List<String> untouched = allOf(state.made());
        for (String call : calls) {
            LeavesObject x = state.made();
            long answer = call(x, call);
            due(call + ", again", call(x, call), answer);
            same(call, allOf(x), untouched);
        }
    }

    // ---- cups, inns

    private static void cup() throws IOException, ReflectiveOperationException {
        sentence("A CUP: its number. NONE: kind; BAD: v, leaves; FULL: 5.");
        taken(SOME, 3, "cup(0, 0, 0)", "cup(6, 9, 4095)");
        refused(SOME, NONE, "cup(-1, 0, 0)", "cup(7, 0, 0)", "cup(-2147483648, 0, 0)", "cup(2147483647, 0, 0)");
        refused(SOME, BAD, "cup(0, -1, 0)", "cup(0, 10, 0)", "cup(0, 0, -1)", "cup(0, 0, 4096)", "cup(6, -1, 4096)");
        refused(SOME, BAD, "cup(0, -2147483648, 0)", "cup(0, 2147483647, 0)", "cup(0, 0, -2147483648)", "cup(0, 0, 2147483647)");
        refused(MOST, FULL, "cup(0, 0, 0)", "cup(6, 9, 4095)");
        refused(SOME, NONE, "cup(7, 10, 0)", "cup(-1, 0, 4096)", "cup(7, -1, -1)");
        refused(MOST, NONE, "cup(7, 0, 0)", "cup(-1, 10, 4096)");
        refused(MOST, BAD, "cup(0, 10, 0)", "cup(0, 0, 4096)", "cup(6, -1, -1)");
    }

    private static void of() throws IOException, ReflectiveOperationException {
        sentence("Of a CUP what 0 KIND, 1 v, 2 LEAVES, 3 MOOD, 4 REFUSED, 10 and w WILL, 20 and w what SAYING w DOES with its LEAVES (bits). NONE.");
        taken(SOME, 0, "of(0, 0)", "of(0, 4)");
        taken(SOME, 3, "of(0, 10)");
        taken(SOME, 5, "of(0, 13)");
        taken(SOME, at(0, 1, 5, 6), "of(0, 20)");
        taken(SOME, at(4, 9), "of(0, 23)");
        refused(SOME, NONE, "of(-1, 0)", "of(3, 0)", "of(5, 0)", "of(-2147483648, 0)", "of(2147483647, 0)", "of(3, 10)", "of(-1, 20)");
        refused(SOME, NONE, "of(0, -1)", "of(0, 5)", "of(0, 9)", "of(0, 14)", "of(0, 19)", "of(0, 24)");
        refused(SOME, NONE, "of(0, -2147483648)", "of(0, 2147483647)", "of(3, 24)", "of(-1, -1)");
        refused(NEW, NONE, "of(0, 0)", "of(0, 13)", "of(0, 23)");
    }

    private static void set() throws IOException, ReflectiveOperationException {
        sentence("Of a CUP what 0 LEAVES, 1 MOOD becomes n: what it was. NONE; BAD.");
        taken(SOME, 33, "set(0, 0, 0)", "set(0, 0, 4095)");
        taken(SOME, 4, "set(0, 1, 0)", "set(0, 1, 9)");
        refused(SOME, NONE, "set(-1, 0, 0)", "set(3, 0, 0)", "set(5, 1, 0)", "set(0, -1, 0)", "set(0, 2, 0)");
        refused(SOME, NONE, "set(-2147483648, 0, 0)", "set(2147483647, 0, 0)", "set(0, -2147483648, 0)", "set(0, 2147483647, 0)");
        refused(SOME, BAD, "set(0, 0, -1)", "set(0, 0, 4096)", "set(0, 1, -1)", "set(0, 1, 10)", "set(0, 1, 4095)");
        refused(SOME, BAD, "set(0, 0, -2147483648)", "set(0, 0, 2147483647)", "set(0, 1, -2147483648)", "set(0, 1, 2147483647)");
        refused(SOME, NONE, "set(3, 0, -1)", "set(-1, 1, 10)", "set(0, 2, -1)", "set(0, -1, 4096)");
    }

    private static void line() throws IOException, ReflectiveOperationException {
        sentence("The LINE of a TOLD one becomes n (0 .. 9) for NIGHTS modulo 4 being part: what it was. NONE: cup, part; BAD; STATE: another KIND.");
        taken(SOME, 5, "line(1, 0, 0)", "line(1, 0, 9)");
        taken(SOME, 6, "line(1, 3, 0)", "line(1, 3, 9)");
        refused(SOME, NONE, "line(-1, 0, 0)", "line(3, 0, 0)", "line(5, 0, 0)", "line(1, -1, 0)", "line(1, 4, 0)");
        refused(SOME, NONE, "line(2147483647, 0, 0)", "line(1, -2147483648, 0)", "line(1, 2147483647, 0)");
        refused(SOME, BAD, "line(1, 0, -1)", "line(1, 0, 10)", "line(1, 3, -2147483648)", "line(1, 3, 2147483647)");
        refused(SOME, STATE, "line(0, 0, 0)", "line(2, 3, 9)");
        refused(SOME, NONE, "line(3, 0, 10)", "line(1, 4, -1)", "line(0, 4, 0)", "line(2, -1, 10)");
        refused(SOME, BAD, "line(0, 0, 10)", "line(2, 3, -1)");
    }

    private static void feed() throws IOException, ReflectiveOperationException {
        sentence("A sign (0 .. 127) comes behind THE TEXT's: how many it has. BAD; FULL.");
        taken(SOME, 14, "feed(0)", "feed(127)");
        taken(NEW, 1, "feed(0)", "feed(127)");
        refused(SOME, BAD, "feed(-1)", "feed(128)", "feed(-2147483648)", "feed(2147483647)");
        refused(MOST, FULL, "feed(0)", "feed(127)");
        refused(MOST, BAD, "feed(-1)", "feed(128)");
    }

    private static void inn() throws IOException, ReflectiveOperationException {
        sentence("THE TEXT, which is empty then, is an INN, and holds: its number. FULL: there are 6 (THE TEXT stays); -10 less the FAULT (the one that held holds).");
        refused(MOST_INNS, FULL, "inn()");
        taken(SOME, -10 - 13, "inn()");
        taken(MOST, -10 - 100, "inn()");
        taken(NEW, -10, "inn()");
        LeavesObject x = some();
        due("inn()", x.inn(), -10 - 13);
        due("count(5)", x.count(5), 0);
        due("count(1)", x.count(1), 1);
        due("told(1), the one that held", x.told(1), 3);
        due("told(2), the one that held", x.told(2), 0);
        due("of(0, 10), the one that held", x.of(0, 10), 3);
        due("inn(), THE TEXT is empty", x.inn(), -10);
        due("inn", innOf(x, "rise 4;will 1 c=0"), 1);
        due("told(1)", x.told(1), 4);
        due("told(2)", x.told(2), 1);
        due("of(0, 10)", x.of(0, 10), 6);
        LeavesObject y = mostInns();
        due("inn(), FULL", y.inn(), FULL);
        due("feed behind it", y.feed(' '), 12);
        due("told(1), the sixth", y.told(1), 5);
    }

    private static void told() throws IOException, ReflectiveOperationException {
        sentence("What 0 NIGHT, 1 RISE, 2 FALL, 3 JOINED, 4 TWICE, 5 MIRRORED, 6 ALIKE (-5). NONE.");
        taken(SOME, 3, "told(0)", "told(1)");
        taken(NEW, NOT_SO, "told(6)");
        refused(SOME, NONE, "told(-1)", "told(7)", "told(-2147483648)", "told(2147483647)");
        refused(NEW, NONE, "told(-1)", "told(7)");
    }

    // ---- sayings, nights

    private static void say() throws IOException, ReflectiveOperationException {
        sentence("A SAYING is SAID: 1 done, 0 it REFUSES. NONE; STATE: REFUSED is 9999.");
        taken(SOME, 0, "say(0, 0)", "say(1, 1)", "say(2, 3)");
        taken(SOME, 1, "say(0, 1)", "say(0, 3)");
        refused(SOME, NONE, "say(-1, 0)", "say(3, 0)", "say(5, 0)", "say(0, -1)", "say(0, 4)", "say(3, 4)");
        refused(SOME, NONE, "say(-2147483648, 0)", "say(2147483647, 0)", "say(0, -2147483648)", "say(0, 2147483647)");
        refused(REFUSED_MOST, STATE, "say(0, 0)", "say(0, 3)");
        refused(REFUSED_MOST, NONE, "say(0, -1)", "say(0, 4)", "say(-1, 0)", "say(3, 0)");
        LeavesObject x = some();
        putRefused(x, 0, 9998);
        due("say(0, 0), the last no", x.say(0, 0), 0);
        due("of(0, 4)", x.of(0, 4), 9999);
        due("say(0, 0)", x.say(0, 0), STATE);
        due("say(2, 3), another", x.say(2, 3), 0);
    }

    private static void pass() throws IOException, ReflectiveOperationException {
        sentence("n NIGHTS (0 .. 60) go: NIGHT. BAD; STATE: it would be above 9999.");
        taken(SOME, 3, "pass(0)");
        taken(SOME, 63, "pass(60)");
        taken(LATE, 9990, "pass(0)");
        taken(LATE, 9999, "pass(9)");
        refused(SOME, BAD, "pass(-1)", "pass(61)", "pass(-2147483648)", "pass(2147483647)");
        refused(LATE, STATE, "pass(10)", "pass(60)");
        refused(LATE, BAD, "pass(-1)", "pass(61)", "pass(2147483647)");
        LeavesObject x = late();
        due("pass(9)", x.pass(9), 9999);
        due("pass(1)", x.pass(1), STATE);
        due("pass(0)", x.pass(0), 9999);
        due("of(0, 3)", x.of(0, 3), 0);
    }

    private static void after() throws IOException, ReflectiveOperationException {
        sentence("AFTER: what 0 LEAVES, 1 MOOD, 2 whether it REFUSES. NONE.");
        taken(SOME, 33, "after(0, 0, 0)");
        taken(SOME, 7, "after(0, 0, 1)");
        taken(SOME, 1, "after(0, 0, 2)");
        taken(SOME, 0, "after(0, 3, 2)");
        refused(SOME, NONE, "after(-1, 0, 0)", "after(3, 0, 0)", "after(5, 0, 0)", "after(0, -1, 0)", "after(0, 4, 0)");
        refused(SOME, NONE, "after(0, 0, -1)", "after(0, 0, 3)", "after(3, 4, 3)", "after(2147483647, -2147483648, 0)");
    }

    // ---- shapes

    private static void comes() throws IOException, ReflectiveOperationException {
        sentence("COMES: k -1 how many (-5), else the k-th (-5: there are fewer). NONE: cup, k (-1 .. 3); BAD: shape.");
        taken(SOME, 1, "comes(0, 0, -1)", "comes(0, 0, 0)");
        taken(SOME, NOT_SO, "comes(0, 0, 1)", "comes(0, 0, 3)", "comes(0, 4095, -1)", "comes(0, 4095, 0)", "comes(0, 33, 0)");
        taken(SOME, 0, "comes(0, 33, -1)");
        refused(SOME, NONE, "comes(-1, 0, 0)", "comes(3, 0, 0)", "comes(5, 0, 0)", "comes(0, 0, -2)", "comes(0, 0, 4)");
        refused(SOME, NONE, "comes(2147483647, 0, 0)", "comes(0, 0, -2147483648)", "comes(0, 0, 2147483647)");
        refused(SOME, BAD, "comes(0, -1, -1)", "comes(0, 4096, 3)", "comes(0, -2147483648, 0)", "comes(0, 2147483647, 0)");
        refused(SOME, NONE, "comes(3, 4096, 0)", "comes(0, -1, 4)", "comes(0, 4096, -2)");
    }

    private static void near() throws IOException, ReflectiveOperationException {
        sentence("NEAR: k -1 how many, else the k-th. NONE: cup, k (-1 .. 2); BAD: shape.");
        taken(SOME, 0, "near(0, 0, -1)", "near(0, 33, -1)");
        taken(SOME, 10, "near(2, 4095, -1)");
        taken(SOME, 1, "near(0, 0, 0)");
        taken(SOME, 2, "near(0, 24, 2)");
        refused(SOME, NONE, "near(-1, 0, 0)", "near(3, 0, 0)", "near(5, 0, 0)", "near(0, 0, -2)", "near(0, 0, 3)");
        refused(SOME, NONE, "near(2147483647, 0, 0)", "near(0, 0, -2147483648)", "near(0, 0, 2147483647)");
        refused(SOME, BAD, "near(0, -1, -1)", "near(0, 4096, 2)", "near(0, -2147483648, 0)", "near(0, 2147483647, 0)");
        refused(SOME, NONE, "near(3, 4096, 0)", "near(0, -1, 3)", "near(0, 4096, -2)");
    }

    private static void fullest() throws IOException, ReflectiveOperationException {
        sentence("FULLEST. NONE.");
        taken(SOME, 2, "fullest(2)");
        refused(SOME, NONE, "fullest(-1)", "fullest(3)", "fullest(5)", "fullest(-2147483648)", "fullest(2147483647)");
    }

    private static void firstNo() throws IOException, ReflectiveOperationException {
        sentence("FIRST NO; -5. NONE.");
        taken(SOME, 1, "firstNo(0, 0)", "firstNo(2, 3)");
        taken(SOME, NOT_SO, "firstNo(0, 3)");
        refused(SOME, NONE, "firstNo(-1, 0)", "firstNo(3, 0)", "firstNo(5, 0)", "firstNo(0, -1)", "firstNo(0, 4)");
        refused(SOME, NONE, "firstNo(2147483647, 0)", "firstNo(0, -2147483648)", "firstNo(3, 4)");
    }

    private static void show() throws IOException, ReflectiveOperationException {
        sentence("SHOW (bits); -5. BAD.");
        taken(SOME, 0, "show(0)");
        taken(SOME, NOT_SO, "show(4095)");
        refused(SOME, BAD, "show(-1)", "show(4096)", "show(-2147483648)", "show(2147483647)");
        refused(NEW, BAD, "show(-1)", "show(4096)");
    }

    private static void next() throws IOException, ReflectiveOperationException {
        sentence("NEXT; -5. BAD.");
        taken(SOME, 1, "next(0)");
        taken(NEW, NOT_SO, "next(0)", "next(4095)");
        refused(SOME, BAD, "next(-1)", "next(4096)", "next(-2147483648)", "next(2147483647)");
        refused(NEW, BAD, "next(-1)", "next(4096)");
    }

    // ---- seen, odds

    private static void see() throws IOException, ReflectiveOperationException {
        sentence("What is SEEN comes: how many there are (saying -1: none then, 0, whatever the other is). NONE; BAD: leaves; FULL: 5.");
        taken(SOME, 3, "see(0, 0)", "see(3, 4095)");
        taken(SOME, 0, "see(-1, -1)", "see(-1, 0)", "see(-1, 4096)", "see(-1, -2147483648)");
        taken(MOST, 0, "see(-1, 4096)");
        taken(NEW, 0, "see(-1, 7)");
        refused(SOME, NONE, "see(-2, 0)", "see(4, 0)", "see(-2147483648, 0)", "see(2147483647, 0)");
        refused(SOME, BAD, "see(0, -1)", "see(3, 4096)", "see(0, -2147483648)", "see(0, 2147483647)");
        refused(MOST, FULL, "see(0, 0)", "see(3, 4095)");
        refused(SOME, NONE, "see(-2, -1)", "see(4, 4096)");
        refused(MOST, NONE, "see(-2, 0)", "see(4, 4096)");
        refused(MOST, BAD, "see(0, -1)", "see(3, 4096)");
    }

    private static void moods() throws IOException, ReflectiveOperationException {
        sentence("MOODS: what 0 how many, 1 the least; -5. NONE.");
        taken(SOME, 6, "moods(0, 0)");
        taken(SOME, 0, "moods(0, 1)", "moods(1, 0)");
        taken(SOME, NOT_SO, "moods(1, 1)");
        refused(SOME, NONE, "moods(-1, 0)", "moods(3, 0)", "moods(5, 1)", "moods(0, -1)", "moods(0, 2)", "moods(3, 2)");
        refused(SOME, NONE, "moods(2147483647, 0)", "moods(0, -2147483648)", "moods(0, 2147483647)");
    }

    private static void can() throws IOException, ReflectiveOperationException {
        sentence("CAN: what 0 how many, 1 the least; -5. NONE.");
        taken(SOME, 10, "can(0, 0)");
        taken(SOME, 0, "can(0, 1)", "can(1, 0)");
        taken(SOME, NOT_SO, "can(1, 1)");
        refused(SOME, NONE, "can(-1, 0)", "can(3, 0)", "can(5, 1)", "can(0, -1)", "can(0, 2)", "can(3, 2)");
        refused(SOME, NONE, "can(2147483647, 0)", "can(0, -2147483648)", "can(0, 2147483647)");
    }

    private static void odds() throws IOException, ReflectiveOperationException {
        sentence("ODDS; part 0 above, 1 below the line. NO: cup, q, part.");
        taken(SOME, 1, "odds(0, 0, 0)", "odds(0, 0, 1)", "odds(0, 12, 1)");
        taken(SOME, 0, "odds(0, 12, 0)");
        refused(SOME, NO, "odds(-1, 0, 0)", "odds(3, 0, 0)", "odds(5, 0, 0)", "odds(0, -1, 0)", "odds(0, 13, 1)");
        refused(SOME, NO, "odds(0, 0, -1)", "odds(0, 0, 2)", "odds(3, 13, 2)", "odds(2147483647, -2147483648, 0)");
    }

    private static void mean() throws IOException, ReflectiveOperationException {
        sentence("MEAN; part likewise. NO.");
        taken(SOME, 2, "mean(0)");
        taken(SOME, 1, "mean(1)");
        refused(SOME, NO, "mean(-1)", "mean(2)", "mean(-2147483648)", "mean(2147483647)");
        refused(NEW, NO, "mean(0)", "mean(1)", "mean(2)");
    }

    // ---- evenings, books

    private static void evening() throws IOException, ReflectiveOperationException {
        sentence("What goes comes to the EVENING: how many there are (cup -1: it is empty then, 0, whatever the other is; 5: a NIGHT, the saying not looked at). NONE: cup, saying; FULL: 10.");
        taken(SOME, 4, "evening(0, 0)", "evening(2, 3)", "evening(5, 0)", "evening(5, -1)", "evening(5, 4)", "evening(5, 2147483647)");
        taken(SOME, 0, "evening(-1, 0)", "evening(-1, -1)", "evening(-1, 4)");
        taken(MOST, 0, "evening(-1, 4)");
        taken(NEW, 1, "evening(5, -7)");
        refused(NEW, NONE, "evening(0, 0)", "evening(4, 0)", "evening(6, 0)");
        refused(SOME, NONE, "evening(-2, 0)", "evening(3, 0)", "evening(4, 0)", "evening(6, 0)", "evening(0, -1)", "evening(0, 4)");
        refused(SOME, NONE, "evening(-2147483648, 0)", "evening(2147483647, 0)", "evening(0, -2147483648)", "evening(3, 4)");
        refused(MOST, FULL, "evening(0, 0)", "evening(4, 3)", "evening(5, 0)", "evening(5, 99)");
        refused(MOST, NONE, "evening(6, 0)", "evening(-2, 0)", "evening(0, -1)", "evening(4, 4)");
    }

    private static void ends() throws IOException, ReflectiveOperationException {
        sentence("ENDS: what 0 JOINED, 1 REFUSED more. NONE.");
        taken(SOME, 1, "ends(1)");
        taken(NEW, 0, "ends(0)", "ends(1)");
        refused(SOME, NONE, "ends(-1)", "ends(2)", "ends(-2147483648)", "ends(2147483647)");
    }

    private static void book() throws IOException, ReflectiveOperationException {
        sentence("A row comes to the BOOK: how many there are (cup -1: it is empty then, 0, whatever the other is). NONE; BAD: leaves; FULL: 8.");
        taken(SOME, 4, "book(0, 0)", "book(2, 4095)");
        taken(SOME, 0, "book(-1, 0)", "book(-1, -1)", "book(-1, 4096)");
        taken(MOST, 0, "book(-1, 4096)");
        refused(NEW, NONE, "book(0, 0)", "book(4, 0)");
        refused(SOME, NONE, "book(-2, 0)", "book(3, 0)", "book(5, 0)", "book(-2147483648, 0)", "book(2147483647, 0)");
        refused(SOME, BAD, "book(0, -1)", "book(2, 4096)", "book(0, -2147483648)", "book(0, 2147483647)");
        refused(MOST, FULL, "book(0, 0)", "book(4, 4095)");
        refused(SOME, NONE, "book(-2, -1)", "book(3, 4096)");
        refused(MOST, NONE, "book(-2, 0)", "book(5, 4096)");
        refused(MOST, BAD, "book(0, -1)", "book(4, 4096)");
    }

    private static void looked() throws IOException, ReflectiveOperationException {
        sentence("LOOKED at; -5.");
        taken(SOME, 1, "looked()");
        taken(NEW, NOT_SO, "looked()");
    }

    // ---- judging, the image, acts, tapes

    private static void judge() throws IOException, ReflectiveOperationException {
        sentence("JUDGED from place i of a TAPE on. NONE: tape; CAST: it is no row of shorts.");
        taken(SOME, 2, "judge(1, 0)");
        taken(SOME, 0, "judge(1, 1)");
        taken(SOME, 100, "judge(1, -1)", "judge(1, 4)", "judge(5, 0)", "judge(5, -1)");
        refused(SOME, NONE, "judge(-1, 0)", "judge(6, 0)", "judge(-2147483648, 0)", "judge(2147483647, 0)", "judge(6, -1)");
        refused(SOME, CAST, "judge(0, 0)", "judge(2, 0)", "judge(3, 0)", "judge(4, 0)", "judge(0, -1)", "judge(3, 60)");
        refused(NEW, NONE, "judge(-1, 0)", "judge(6, 0)");
        LeavesObject x = new LeavesObject();
        x.tape(0, 2, 3);
        due("judge(0, 0), no CUPS", x.judge(0, 0), CAST);
    }

    private static void undo() throws IOException, ReflectiveOperationException {
        sentence("All is as THE IMAGE: how many CUPS. STATE: there is none.");
        taken(SOME, 3, "undo()");
        taken(MOST, 5, "undo()");
        refused(NEW, STATE, "undo()");
        refused(LATE, STATE, "undo()");
        refused(MOST_INNS, STATE, "undo()");
    }

    private static void act() throws IOException, ReflectiveOperationException {
        sentence("An ACT (0 lies, 1 says, 2 tells) of a CUP with x. 0, and no TRACE then: no such CUP, act.");
        taken(SOME, 7, "act(0, 0, 7)");
        taken(SOME, 6, "act(0, 1, 7)");
        taken(SOME, 12, "act(0, 2, 7)");
        String[] none = {"act(-1, 0, 7)", "act(3, 0, 7)", "act(5, 0, 7)", "act(0, -1, 7)", "act(0, 3, 7)", "act(3, 3, 7)",
            "act(-2147483648, 0, 7)", "act(2147483647, 0, 7)", "act(0, -2147483648, 7)", "act(0, 2147483647, 7)"};
        for (String call : none) {
            LeavesObject x = some();
            due("count(6)", x.count(6), 12);
            due(call, call(x, call), 0);
            due("count(6) behind " + call, x.count(6), 0);
            for (int i = 0; i <= 20; i++) {
                due("trace(" + i + ") behind " + call, x.trace(i), NONE);
            }
            LeavesObject y = some();
            x.act(0, 0, 7);
            y.act(0, 0, 7);
            same(call, allOf(x), allOf(y));
        }
    }

    private static void trace() throws IOException, ReflectiveOperationException {
        sentence("THE TRACE's i-th body. NONE.");
        taken(SOME, 40, "trace(0)");
        taken(SOME, 10, "trace(11)");
        refused(SOME, NONE, "trace(-1)", "trace(12)", "trace(19)", "trace(20)", "trace(21)");
        refused(SOME, NONE, "trace(-2147483648)", "trace(2147483647)");
        refused(NEW, NONE, "trace(0)", "trace(-1)");
    }

    private static void taken() throws IOException, ReflectiveOperationException {
        sentence("A CUP taken for one of KIND k (0 .. 6), or one under that: its KIND. BAD: k; NOTHING: no such CUP; CAST.");
        taken(SOME, 0, "taken(0, 0)");
        taken(SOME, 6, "taken(1, 0)", "taken(1, 3)", "taken(1, 6)");
        refused(SOME, BAD, "taken(0, -1)", "taken(0, 7)", "taken(0, -2147483648)", "taken(0, 2147483647)");
        refused(SOME, NOTHING, "taken(-1, 0)", "taken(3, 0)", "taken(5, 6)", "taken(-2147483648, 0)", "taken(2147483647, 0)");
        refused(SOME, CAST, "taken(0, 1)", "taken(0, 6)", "taken(1, 1)", "taken(1, 5)", "taken(2, 5)");
        refused(SOME, BAD, "taken(3, 7)", "taken(-1, -1)");
        refused(NEW, NOTHING, "taken(0, 0)");
        refused(NEW, BAD, "taken(0, 7)");
    }

    private static void count() throws IOException, ReflectiveOperationException {
        sentence("5 bytes of THE TEXT, 6 bodies that ran in the latest act() (all, kept or not). BAD.");
        int[] some = {3, 1, 2, 3, 3, 13, 12};
        int[] most = {5, 1, 5, 10, 8, 100, 0};
        for (int what = 0; what <= 6; what++) {
            taken(SOME, some[what], "count(" + what + ")");
            taken(MOST, most[what], "count(" + what + ")");
            taken(NEW, 0, "count(" + what + ")");
        }
        taken(MOST_INNS, 6, "count(1)");
        refused(SOME, BAD, "count(-1)", "count(7)", "count(-2147483648)", "count(2147483647)");
    }

    private static void tape() throws IOException, ReflectiveOperationException {
        sentence("A TAPE becomes a row of n (0 .. 60) of a sort, all 0, or holds nothing (sort -1: n does not matter): 1. NONE: tape; BAD: sort, n above 60; SIZE.");
        taken(SOME, 1, "tape(0, 0, 0)", "tape(5, 4, 60)", "tape(0, -1, 0)", "tape(0, -1, -1)", "tape(0, -1, 61)");
        refused(SOME, NONE, "tape(-1, 0, 0)", "tape(6, 0, 0)", "tape(-2147483648, 0, 0)", "tape(2147483647, 0, 0)");
        refused(SOME, BAD, "tape(0, -2, 0)", "tape(0, 5, 0)", "tape(3, 0, 61)", "tape(0, 0, 2147483647)", "tape(0, 2147483647, 0)");
        refused(SOME, SIZE, "tape(0, 0, -1)", "tape(5, 4, -1)", "tape(3, 3, -2147483648)");
        refused(SOME, NONE, "tape(6, 5, 0)", "tape(-1, 0, 61)", "tape(6, 0, -1)", "tape(-1, -1, 0)", "tape(6, -2, -1)");
        refused(SOME, BAD, "tape(0, 5, -1)", "tape(0, -2, -2147483648)", "tape(0, 5, 61)");
    }

    private static void tapeAgain() throws IOException, ReflectiveOperationException {
        sentence("of a sort, all 0, or holds nothing (sort -1: n does not matter): 1.");
        LeavesObject x = some();
        due("tape(3, 3, 60), again", x.tape(3, 3, 60), 1);
        due("read(3, 59)", x.read(3, 59), 0);
        x.item(3, 59, 7);
        due("tape(3, 2, 59), less", x.tape(3, 2, 59), 1);
        due("read(3, 59)", x.read(3, 59), NO);
        due("item(3, 59, 1)", x.item(3, 59, 1), PLACE);
        due("tape(3, -1, 60)", x.tape(3, -1, 60), 1);
        due("read(3, 0)", x.read(3, 0), NO);
        due("item(3, 0, 1)", x.item(3, 0, 1), NOTHING);
        due("tape(3, 0, 60), once more", x.tape(3, 0, 60), 1);
        due("read(3, 59)", x.read(3, 59), 0);
        due("read(0, 0), another TAPE", x.read(0, 0), 5);
    }

    private static void cut(int sort, long v, long want) {
        LeavesObject x = new LeavesObject();
        x.tape(0, sort, 3);
        due("item of sort " + sort, x.item(0, 1, v), 1);
        due("read of " + v + " in sort " + sort, x.read(0, 1), want);
        due("read ahead of it", x.read(0, 0), 0);
        due("read behind it", x.read(0, 2), 0);
    }

    private static void item() throws IOException, ReflectiveOperationException {
        sentence("Item i of a TAPE becomes v (its lowest bits, as many as an item has; booleans: whether v is not 0): 1. NONE; NOTHING; PLACE.");
        long[][] cuts = {{0, 127, 127}, {0, 128, -128}, {0, -128, -128}, {0, -129, 127}, {0, 255, -1}, {0, 256, 0}, {0, NO, 0},
            {1, 32767, 32767}, {1, 32768, -32768}, {1, -32769, 32767}, {1, 65535, -1}, {1, 65536, 0}, {1, Long.MAX_VALUE, -1},
            {2, MAX, MAX}, {2, MAX + 1L, MIN}, {2, MIN - 1L, MAX}, {2, 1L << 32, 0}, {2, Long.MAX_VALUE, -1},
            {3, Long.MAX_VALUE, Long.MAX_VALUE}, {3, NO, NO}, {3, 1L << 32, 1L << 32},
            {4, 0, 0}, {4, 1, 1}, {4, -1, 1}, {4, 2, 1}, {4, 1L << 32, 1}, {4, NO, 1}};
        for (long[] one : cuts) {
            cut((int) one[0], one[1], one[2]);
        }
        taken(SOME, 1, "item(0, 0, 1)", "item(0, 2, 1)", "item(3, 59, 1)");
        refused(SOME, NONE, "item(-1, 0, 1)", "item(6, 0, 1)", "item(-2147483648, 0, 1)", "item(2147483647, 0, 1)");
        refused(SOME, NOTHING, "item(5, 0, 1)");
        refused(SOME, PLACE, "item(0, -1, 1)", "item(0, 3, 1)", "item(3, 60, 1)", "item(0, -2147483648, 1)", "item(0, 2147483647, 1)");
        refused(SOME, NONE, "item(6, -1, 1)", "item(-1, 60, 1)");
        refused(SOME, NOTHING, "item(5, -1, 1)", "item(5, 60, 1)");
        LeavesObject x = new LeavesObject();
        x.tape(0, 0, 0);
        due("item(0, 0, 1), no places", x.item(0, 0, 1), PLACE);
    }

    private static void read() throws IOException, ReflectiveOperationException {
        sentence("Item i of a TAPE. NO: no such TAPE, nothing there, no such place.");
        taken(SOME, 5, "read(0, 0)");
        taken(SOME, 77, "read(3, 59)");
        taken(SOME, 0, "read(0, 2)");
        refused(SOME, NO, "read(-1, 0)", "read(6, 0)", "read(5, 0)", "read(0, -1)", "read(0, 3)", "read(3, 60)", "read(6, 60)");
        refused(SOME, NO, "read(2147483647, 0)", "read(-2147483648, 0)", "read(0, -2147483648)", "read(0, 2147483647)");
    }

    private static void shift() throws IOException, ReflectiveOperationException {
        sentence("n items of a TAPE from i on come to another one (or the same) from j on, as they all were before: n. NONE: tapes; NOTHING; CAST: of unlike sorts; PLACE: n, i or j is below 0, or beyond either's end.");
        taken(SOME, 3, "shift(0, 0, 0, 0, 3)");
        taken(SOME, 60, "shift(3, 0, 3, 0, 60)");
        taken(SOME, 0, "shift(0, 3, 0, 3, 0)", "shift(0, 0, 0, 3, 0)", "shift(3, 60, 3, 0, 0)");
        refused(SOME, NONE, "shift(-1, 0, 0, 0, 0)", "shift(6, 0, 0, 0, 0)", "shift(0, 0, -1, 0, 0)", "shift(0, 0, 6, 0, 0)");
        refused(SOME, NONE, "shift(2147483647, 0, 0, 0, 0)", "shift(0, 0, -2147483648, 0, 0)", "shift(6, 0, 6, 0, 0)");
        refused(SOME, NOTHING, "shift(5, 0, 0, 0, 0)", "shift(0, 0, 5, 0, 0)", "shift(5, 0, 5, 0, 0)");
        refused(SOME, CAST, "shift(0, 0, 1, 0, 0)", "shift(1, 0, 2, 0, 1)", "shift(3, 0, 4, 0, 1)", "shift(2, 0, 3, 0, 1)");
        refused(SOME, PLACE, "shift(0, 0, 0, 0, -1)", "shift(0, -1, 0, 0, 1)", "shift(0, 0, 0, -1, 1)", "shift(0, 0, 0, 0, 4)");
        refused(SOME, PLACE, "shift(0, 1, 0, 0, 3)", "shift(0, 0, 0, 1, 3)", "shift(0, 4, 0, 0, 0)", "shift(0, 0, 0, 4, 0)");
        refused(SOME, PLACE, "shift(0, 2147483647, 0, 0, 1)", "shift(0, 1, 0, 1, 2147483647)", "shift(0, 1, 0, 2147483647, 2147483647)");
        refused(SOME, PLACE, "shift(0, -2147483648, 0, 0, -2147483648)", "shift(0, 3, 0, 3, -1)", "shift(0, -1, 0, -1, 0)");
        refused(SOME, NONE, "shift(6, 0, 5, 0, 0)", "shift(5, 0, -1, 0, 0)", "shift(6, -1, 1, 0, 0)", "shift(0, 0, 6, 0, -1)");
        refused(SOME, NOTHING, "shift(5, -1, 0, 0, 0)", "shift(0, 0, 5, 0, -1)", "shift(5, 0, 0, 99, 99)");
        refused(SOME, CAST, "shift(0, -1, 1, 0, 0)", "shift(0, 0, 2, 9, 0)", "shift(0, 0, 4, 0, -1)");
    }

    private static void shiftFromTo(int i, int j, int n, int... want) {
        LeavesObject x = new LeavesObject();
        x.tape(0, 1, 5);
        for (int place = 0; place < 5; place++) {
            x.item(0, place, 10 + place);
        }
        due("shift(0, " + i + ", 0, " + j + ", " + n + ")", x.shift(0, i, 0, j, n), n);
        for (int place = 0; place < 5; place++) {
            due("read(0, " + place + ") behind it", x.read(0, place), want[place]);
        }
    }

    private static void shiftOverItself() throws IOException {
        sentence("as they all were before: n.");
        shiftFromTo(0, 1, 4, 10, 10, 11, 12, 13);
        shiftFromTo(1, 0, 4, 11, 12, 13, 14, 14);
        shiftFromTo(0, 2, 3, 10, 11, 10, 11, 12);
        shiftFromTo(2, 0, 3, 12, 13, 14, 13, 14);
        shiftFromTo(0, 0, 5, 10, 11, 12, 13, 14);
        shiftFromTo(5, 0, 0, 10, 11, 12, 13, 14);
        LeavesObject x = new LeavesObject();
        x.tape(0, 3, 60);
        x.tape(5, 3, 2);
        x.item(0, 58, NO);
        x.item(0, 59, 5);
        due("shift(0, 58, 5, 0, 2)", x.shift(0, 58, 5, 0, 2), 2);
        due("read(5, 0)", x.read(5, 0), NO);
        due("read(5, 1)", x.read(5, 1), 5);
        due("read(0, 58), it stays", x.read(0, 58), NO);
    }

    // ---- all calls

    private static void askedChangesNothing() throws IOException, ReflectiveOperationException {
        sentence("What is answered so changes nothing; what is asked changes nothing.");
        for (State state : new State[] {NEW, SOME, MOST, LATE}) {
            asked(state, "of(1, 3)", "of(1, 10)", "of(1, 20)", "told(0)", "told(3)", "told(4)", "told(5)", "told(6)");
            asked(state, "after(0, 0, 0)", "after(1, 2, 1)", "after(2, 3, 2)", "comes(0, 66, -1)", "comes(1, 0, 0)");
            asked(state, "near(0, 66, -1)", "near(1, 4095, 2)", "fullest(0)", "fullest(1)", "firstNo(0, 0)", "firstNo(1, 3)");
            asked(state, "show(33)", "show(4095)", "next(33)", "next(4095)", "moods(0, 0)", "moods(1, 1)", "can(0, 1)");
            asked(state, "odds(0, 3, 0)", "odds(1, 3, 1)", "mean(0)", "ends(0)", "ends(1)", "looked()", "judge(1, 0)");
            asked(state, "trace(0)", "taken(1, 3)", "count(0)", "count(6)", "read(0, 0)", "read(3, 59)", "pass(0)");
        }
    }

    private static String arguments(Method method, Random random, long[] numbers) {
        StringBuilder call = new StringBuilder(method.getName()).append('(');
        for (Class<?> type : method.getParameterTypes()) {
            long number = numbers[random.nextInt(numbers.length)];
            call.append(call.charAt(call.length() - 1) == '(' ? "" : ", ").append(type == int.class ? (int) number : number);
        }
        return call.append(')').toString();
    }

    /** With call() a throw is counted as wrong. */
    private static void everyCallAnswers() throws ReflectiveOperationException {
        about("no call throws");
        long[] numbers = {MIN, MIN + 1, -101, -61, -14, -11, -5, -2, -1, 0, 1, 2, 3, 4, 5, 6, 7, 9, 10, 11, 12, 13, 20, 23,
            59, 60, 61, 100, 127, 128, 4095, 4096, 65535, MAX - 1, MAX, NO, Long.MAX_VALUE};
        Random random = new Random(37);
        for (State state : new State[] {NEW, SOME, MOST, MOST_INNS, LATE, REFUSED_MOST}) {
            for (Method method : LeavesObject.class.getMethods()) {
                LeavesObject x = state.made();
                for (int i = 0; method.getDeclaringClass() == LeavesObject.class && i < 400; i++) {
                    call(x, arguments(method, random, numbers));
                }
            }
        }
    }

    public static void main(String[] args) throws IOException, ReflectiveOperationException {
        cup();
        of();
        set();
        line();
        feed();
        inn();
        told();
        say();
        pass();
        after();
        comes();
        near();
        fullest();
        firstNo();
        show();
        next();
        see();
        moods();
        can();
        odds();
        mean();
        evening();
        ends();
        book();
        looked();
        judge();
        undo();
        act();
        trace();
        taken();
        count();
        tape();
        tapeAgain();
        item();
        read();
        shift();
        shiftOverItself();
        askedChangesNothing();
        everyCallAnswers();
        end("refusals");
    }
}
