/** Each promise of ../shared/DOC.md with ordinary inputs, its edges and wrong inputs; all that is due is worked out by hand. */
public final class PromisesTest extends Checks {
    private static final int[] WRONG_CUPS = {-1, 5, 9, MIN, MAX};
    private static final int[] WRONG_SAYINGS = {-1, 4, MIN, MAX};
    private static final int[] WRONG_LEAVES = {-1, 4096, MIN, MAX};
    private static final int[] WRONG_DIGITS = {-1, 10, MIN, MAX};
    private static final int[] WRONG_TAPES = {-1, 6, MIN, MAX};

    private static void newObject() {
        about("promise 1");
        LeavesObject x = new LeavesObject();
        for (int what = 0; what <= 6; what++) {
            due("count(" + what + ")", x.count(what), 0);
        }
        due("told(0)", x.told(0), 0);
        due("told(1)", x.told(1), 2);
        due("told(2)", x.told(2), 1);
        due("of(0, 0)", x.of(0, 0), NONE);
        due("undo()", x.undo(), STATE);
        due("trace(0)", x.trace(0), NONE);
        due("read(0, 0)", x.read(0, 0), NO);
        due("item(0, 0, 1)", x.item(0, 0, 1), NOTHING);
        due("NONE", LeavesObject.NONE, -1);
        due("BAD", LeavesObject.BAD, -2);
        due("STATE", LeavesObject.STATE, -3);
        due("FULL", LeavesObject.FULL, -4);
        due("NO", LeavesObject.NO, Long.MIN_VALUE);
    }

    private static void cup() {
        about("promise 2");
        LeavesObject x = new LeavesObject();
        due("cup(7, 10, 0)", x.cup(7, 10, 0), NONE);
        due("cup(-1, 0, 0)", x.cup(-1, 0, 0), NONE);
        for (int bad : WRONG_DIGITS) {
            due("cup(0, " + bad + ", 0)", x.cup(0, bad, 0), BAD);
        }
        for (int bad : WRONG_LEAVES) {
            due("cup(0, 0, " + bad + ")", x.cup(0, 0, bad), BAD);
        }
        due("count(0)", x.count(0), 0);
        due("cup(6, 9, 4095)", x.cup(6, 9, 4095), 0);
        due("cup(0, 0, 0)", x.cup(0, 0, 0), 1);
        due("cup(1, 0, 0)", x.cup(1, 0, 0), 2);
        due("cup(2, 0, 0)", x.cup(2, 0, 0), 3);
        due("cup(5, 1, 2)", x.cup(5, 1, 2), 4);
        due("cup(0, 0, 0)", x.cup(0, 0, 0), FULL);
        due("cup(7, 0, 0)", x.cup(7, 0, 0), NONE);
        due("cup(0, 10, 0)", x.cup(0, 10, 0), BAD);
        due("count(0)", x.count(0), 5);
        due("of(0, 0)", x.of(0, 0), 6);
        due("of(4, 0)", x.of(4, 0), 5);
    }

    private static void freshCupBehindUndo() {
        about("promise 2");
        LeavesObject x = new LeavesObject();
        x.image();
        add(x, 6, 0);
        x.line(0, 0, 9);
        x.set(0, 1, 9);
        x.say(0, 0);
        x.undo();
        add(x, 6, 0);
        due("of(0, 3)", x.of(0, 3), 0);
        due("of(0, 4)", x.of(0, 4), 0);
        due("line(0, 0, 0)", x.line(0, 0, 0), 0);
    }

    private static void of() {
        about("promise 3");
        LeavesObject x = new LeavesObject();
        x.cup(3, 8, at(4));
        x.set(0, 1, 6);
        x.say(0, 0);
        due("of(0, 0)", x.of(0, 0), 3);
        due("of(0, 1)", x.of(0, 1), 8);
        due("of(0, 2)", x.of(0, 2), at(4));
        due("of(0, 3)", x.of(0, 3), 8);
        due("of(0, 4)", x.of(0, 4), 1);
        due("of(0, 10)", x.of(0, 10), 5);
        due("of(0, 13)", x.of(0, 13), 5);
        for (int what : new int[] {-1, 5, 9, 14, 19, 24, Integer.MIN_VALUE, Integer.MAX_VALUE}) {
            due("of(0, " + what + ")", x.of(0, what), NONE);
        }
        for (int none : WRONG_CUPS) {
            due("of(" + none + ", 0)", x.of(none, 0), NONE);
        }
        due("of(1, 0)", x.of(1, 0), NONE);
    }

    private static void does(int kind, int leaves, int spread, int thin, int tip, int swirl) {
        LeavesObject x = cups(kind, leaves);
        String call = "of(a " + kind + " with " + leaves + ", 2";
        due(call + "0)", x.of(0, 20), spread);
        due(call + "1)", x.of(0, 21), thin);
        due(call + "2)", x.of(0, 22), tip);
        due(call + "3)", x.of(0, 23), swirl);
        for (int saying = 0; saying < 4; saying++) {
            due("after " + saying, x.after(0, saying, 0), x.of(0, 20 + saying));
        }
    }

    private static void sayingsDo() {
        about("promise 3");
        does(0, at(3, 4), at(3, 4, 5), 0, at(0, 5), at(7, 8));
        does(0, at(0, 1, 9), at(0, 1, 2, 9, 10), at(0, 1), at(1, 2, 10), at(1, 4, 5));
        does(0, at(2, 6, 8), at(2, 3, 6, 7, 8, 9), at(2, 6), at(3, 7, 9), at(0, 6, 10));
        does(0, 4095, 4095, 4095, 4095, 4095);
        does(2, at(0, 5), at(0, 4, 5), at(0, 1, 4, 5), at(3, 4), at(1, 8));
        does(2, at(0, 2), at(0, 1, 2), at(0, 1, 2), at(1, 3), at(8, 10));
        does(2, at(3, 11), at(2, 3, 10, 11), at(3, 7, 11), at(2, 10), at(7, 11));
        does(2, at(3, 4, 8), at(2, 3, 4, 8), at(3, 4, 8), at(2, 7, 11), at(0, 4, 11));
        does(3, at(4), at(4, 5, 6), 0, at(6), at(0));
        does(3, at(3, 7), at(3, 7), at(3, 7), at(1, 5), at(3, 11));
        does(1, 0x77, 0xFF, 0x77, 0xEE, 0x770);
        does(1, 0x7F, 0x7F, 0x7F, 0x7F, 0x7F);
        does(4, at(4), at(4, 5), 0, at(5), 0);
        does(4, at(8, 9), 0, 0, 0, at(0, 1));
        does(4, 0x13F, 0x3F, 0x3F, 0x3F, 0x3F);
        does(6, at(5), at(5, 6, 7), 0, at(7), at(1));
    }

    private static void sayingsDoByNight() {
        about("promise 3");
        LeavesObject x = cups(5, at(5), 6, at(5));
        x.line(1, 1, 9);
        x.line(1, 2, 2);
        due("of(0, 20), NIGHT 0", x.of(0, 20), at(5, 6));
        due("of(1, 20), NIGHT 0", x.of(1, 20), at(5, 6, 7));
        x.pass(1);
        due("of(0, 20), NIGHT 1", x.of(0, 20), at(4, 5));
        due("of(0, 23), NIGHT 1", x.of(0, 23), at(1));
        due("of(1, 20), NIGHT 1", x.of(1, 20), at(0, 3, 5, 6, 7));
        due("of(1, 21), NIGHT 1", x.of(1, 21), at(0, 3));
        x.pass(1);
        due("of(0, 22), NIGHT 2", x.of(0, 22), at(6));
        due("of(1, 22), NIGHT 2", x.of(1, 22), at(1, 7));
        x.pass(3);
        due("of(1, 23), NIGHT 5", x.of(1, 23), at(0, 1, 3));
        x.pass(2);
        due("of(1, 23), NIGHT 7", x.of(1, 23), at(1));
    }

    private static void will(String inn, int due) {
        LeavesObject x = with(inn);
        add(x, 0, 0);
        x.cup(2, 7, at(1, 2, 3));
        x.pass(59);
        due("of(1, 12) by " + inn, x.of(1, 12), due);
    }

    private static void wills() {
        about("promise 3");
        will("will 20 c=1", 25);
        will("will 20 c=0", 5);
        will("will 20 c<2&c>0", 25);
        will("will 20 c<1|c>1", 5);
        will("will 20 w=2", 25);
        will("will 20 w<2|w>2", 5);
        will("will 20 k=2", 25);
        will("will 20 k<2|k>2", 5);
        will("will 20 v=7", 25);
        will("will 20 v=07", 25);
        will("will 20 v<7|v>7", 5);
        will("will 20 l=3", 25);
        will("will 20 l<3|l>3", 5);
        will("will 20 n=9", 25);
        will("will 20 n<9|n>9", 5);
        will("will 20 n<99", 25);
        will("will 20 c=1|c=0&w=0", 25);
        will("will 20 c=0&w=0|c=1", 25);
        will("will 20 (c=1|c=0)&w=0", 5);
        will("will 20 !c=1|c=1", 25);
        will("will 20 !(c=1|c=0)", 5);
        will("will 20 !!!!c=1", 25);
        will("will 20 !!!c=1", 5);
        will("will 20 !(c=0&w=2)&(l=3|!v=7)", 25);
        will("will 20 c=0|c=0|c=0|c=1", 25);
        will("will 20 c=1&w=2&k=2&v=6", 5);
        will("balk 3 c=1", 2);
        will("balk 5 c=1", 0);
        will("balk 9 c=1;will 6 w=2", 2);
        will("balk 99 c=1;will 90 w=2", 0);
        will("will 3 c=1;will 4 c=1;balk 1 c=0;balk 2 c=1", 10);
        will("rise 9;fall 8", 5);
    }

    private static void set() {
        about("promise 4");
        LeavesObject x = cups(0, at(1));
        due("set(0, 0, 4095)", x.set(0, 0, 4095), at(1));
        due("set(0, 0, 0)", x.set(0, 0, 0), 4095);
        due("of(0, 2)", x.of(0, 2), 0);
        due("set(0, 1, 9)", x.set(0, 1, 9), 0);
        due("set(0, 1, 4)", x.set(0, 1, 4), 9);
        due("of(0, 3)", x.of(0, 3), 4);
        for (int bad : WRONG_LEAVES) {
            due("set(0, 0, " + bad + ")", x.set(0, 0, bad), BAD);
        }
        for (int bad : WRONG_DIGITS) {
            due("set(0, 1, " + bad + ")", x.set(0, 1, bad), BAD);
        }
        for (int none : WRONG_CUPS) {
            due("set(" + none + ", 0, -1)", x.set(none, 0, -1), NONE);
        }
        due("set(0, 2, -1)", x.set(0, 2, -1), NONE);
        due("set(0, -1, 0)", x.set(0, -1, 0), NONE);
        due("of(0, 2)", x.of(0, 2), 0);
        due("of(0, 3)", x.of(0, 3), 4);
    }

    private static void line() {
        about("promise 5");
        LeavesObject x = cups(6, 0, 3, 0);
        due("line(0, 3, 9)", x.line(0, 3, 9), 0);
        due("line(0, 0, 1)", x.line(0, 0, 1), 0);
        due("line(0, 3, 0)", x.line(0, 3, 0), 9);
        due("line(0, 0, 1)", x.line(0, 0, 1), 1);
        due("line(0, 4, -1)", x.line(0, 4, -1), NONE);
        due("line(0, -1, 0)", x.line(0, -1, 0), NONE);
        for (int none : WRONG_CUPS) {
            due("line(" + none + ", 0, 0)", x.line(none, 0, 0), NONE);
        }
        for (int bad : WRONG_DIGITS) {
            due("line(0, 0, " + bad + ")", x.line(0, 0, bad), BAD);
        }
        due("line(1, 4, 10)", x.line(1, 4, 10), NONE);
        due("line(1, 0, 10)", x.line(1, 0, 10), BAD);
        due("line(1, 0, 9)", x.line(1, 0, 9), STATE);
        due("of(1, 20)", x.of(1, 20), 0);
        due("of(0, 20)", x.of(0, 20), 1);
    }

    private static void feeds() {
        about("promise 6");
        LeavesObject x = new LeavesObject();
        due("feed(-1)", x.feed(-1), BAD);
        due("feed(128)", x.feed(128), BAD);
        due("count(5)", x.count(5), 0);
        due("feed(0)", x.feed(0), 1);
        for (int i = 2; i <= 100; i++) {
            due("feed(127)", x.feed(127), i);
        }
        due("feed(127)", x.feed(127), FULL);
        due("feed(128)", x.feed(128), BAD);
        due("count(5)", x.count(5), 100);
        due("inn()", x.inn(), -10);
        due("feed(1)", x.feed(1), 1);
    }

    private static void fault(String text, int place) {
        LeavesObject x = new LeavesObject();
        due("inn of " + text, innOf(x, text), -10 - place);
        due("count(5) behind " + text, x.count(5), 0);
        due("count(1) behind " + text, x.count(1), 0);
    }

    private static void faults() {
        about("promise 7");
        fault("", 0);
        fault("x", 0);
        fault(";", 0);
        fault("Will 1 c=1", 0);
        fault(" will 1 c=1", 0);
        fault("w", 1);
        fault("wi", 2);
        fault("wall 1 c=1", 1);
        fault("fill 1", 1);
        fault("will", 4);
        fault("will1 c=1", 4);
        fault("will ", 5);
        fault("will  1 c=1", 5);
        fault("will x", 5);
        fault("balk -1 c=1", 5);
        fault("will 1", 6);
        fault("will 1c=1", 6);
        fault("will 1;", 6);
        fault("will 123 c=1", 7);
        fault("will 1 ", 7);
        fault("will 1  c=1", 7);
        fault("will 1 a=1", 7);
        fault("will 1 c", 8);
        fault("will 1 c1", 8);
        fault("will 1 c!1", 8);
        fault("will 1 c=", 9);
        fault("will 1 c==1", 9);
        fault("will 1 c=c", 9);
        fault("will 1 c=123", 11);
        fault("will 1 c=1 ", 10);
        fault("will 1 c=1w=1", 10);
        fault("will 1 c=1)", 10);
        fault("will 1 c=1&", 11);
        fault("will 1 c=1|", 11);
        fault("will 1 c=1&|c=1", 11);
        fault("will 1 c=1||c=1", 11);
        fault("will 1 (c=1", 11);
        fault("will 1 (c=1;", 11);
        fault("will 1 (c=1))", 12);
        fault("will 1 ()", 8);
        fault("will 1 !", 8);
        fault("will 1 !)", 8);
        fault("will 1 c=1!", 10);
        fault("will 1 !!!!!c=1", 11);
        fault("will 1 (((((c=1)))))", 11);
        fault("will 1 !(!(!c=1))", 11);
        fault("will 1 !(!((c=1)))", 11);
        fault("will 1 ((((c=1&(c=2)))))", 15);
        fault("rise", 4);
        fault("rise ", 5);
        fault("rise a", 5);
        fault("rise 1 c=1", 6);
        fault("fall 123", 7);
        fault("rise 1;", 7);
        fault("rise 1;;rise 1", 7);
        fault("rise 1;x", 7);
        fault("rise 1; rise 1", 7);
        fault("rise 1;rise 1;rise 1;rise 1;rise 1;rise 1;rise 1;rise 1;rise 1;rise 1;", 69);
        fault("rise 1;rise 1;rise 1;rise 1;rise 1;rise 1;rise 1;rise 1;rise 1;rise 1;rise 1", 69);
        fault("will 11 " + "c=0|".repeat(23), 100);
    }

    private static void inns() {
        about("promise 7");
        LeavesObject x = new LeavesObject();
        add(x, 0, 0);
        due("an inn", innOf(x, "will 11 " + "c=9|".repeat(22) + "c=00"), 0);
        due("of(0, 10)", x.of(0, 10), 16);
        due("count(5)", x.count(5), 0);
        due("an inn", innOf(x, "rise 1;rise 1;rise 1;rise 1;rise 1;rise 1;rise 1;rise 1;rise 1;rise 7"), 1);
        due("told(1)", x.told(1), 7);
        due("of(0, 10)", x.of(0, 10), 5);
        due("a faulty inn", innOf(x, "rise 3;will 9 c=0;fall"), -10 - 22);
        due("told(1)", x.told(1), 7);
        due("of(0, 10)", x.of(0, 10), 5);
        due("a faulty inn", innOf(x, "rise 3;fall 3;will 9 c=9;w"), -10 - 26);
        due("a faulty inn", innOf(x, "will 9 c=0&c=1&"), -10 - 15);
        due("an inn", innOf(x, "will 1 ((((c=0))))&((((c=0))))"), 2);
        due("told(1)", x.told(1), 2);
        due("told(2)", x.told(2), 1);
        due("of(0, 10)", x.of(0, 10), 6);
        due("an inn", innOf(x, "will 2 !c=1&!c=1&!c=1&!c=1&!c=1|(!c=0)"), 3);
        due("of(0, 10)", x.of(0, 10), 7);
        due("an inn", innOf(x, "will 3 !(!(c=0))"), 4);
        due("an inn", innOf(x, "balk 03 c=0"), 5);
        due("of(0, 10)", x.of(0, 10), 2);
        due("count(1)", x.count(1), 6);
        feed(x, "rise");
        due("inn()", x.inn(), FULL);
        due("count(5)", x.count(5), 4);
        due("of(0, 10)", x.of(0, 10), 2);
    }

    private static void innBehindManyFaults() {
        about("promise 7");
        LeavesObject x = new LeavesObject();
        add(x, 0, 0);
        for (int i = 0; i < 3; i++) {
            due("a faulty inn", innOf(x, "will 9 " + "c=9|".repeat(22) + "x"), -10 - 95);
        }
        due("an inn", innOf(x, "will 9 !c=0|c=0"), 0);
        due("of(0, 10)", x.of(0, 10), 14);
    }

    private static void told() {
        about("promise 8");
        LeavesObject x = with("rise 3;rise 40;fall 0;fall 12;rise 9");
        due("told(1)", x.told(1), 9);
        due("told(2)", x.told(2), 12);
        innOf(x, "rise 0");
        due("told(1)", x.told(1), 0);
        due("told(2)", x.told(2), 1);
        innOf(x, "fall 0");
        due("told(1)", x.told(1), 2);
        due("told(2)", x.told(2), 0);
        add(x, 0, at(0, 3, 5, 6));
        due("told(3)", x.told(3), at(0, 3, 5, 6));
        due("told(4)", x.told(4), 0);
        due("told(5)", x.told(5), 1);
        due("told(6)", x.told(6), NOT_SO);
        add(x, 0, at(0, 1), 0, at(5, 8), 0, 0);
        due("told(3)", x.told(3), at(0, 1, 3, 5, 6, 8));
        due("told(4)", x.told(4), at(0, 5));
        due("told(5)", x.told(5), 0b1001);
        due("told(6)", x.told(6), 13);
        add(x, 0, at(5, 8, 9));
        due("told(4)", x.told(4), at(0, 5, 8));
        due("told(6)", x.told(6), 24);
        x.pass(5);
        due("told(0)", x.told(0), 5);
        due("told(7)", x.told(7), NONE);
        due("told(-1)", x.told(-1), NONE);
    }

    private static void alikeFirst() {
        about("promise 8");
        LeavesObject x = cups(0, at(0), 0, at(1), 0, at(2));
        due("told(6)", x.told(6), 1);
        x.set(0, 0, 4095);
        due("told(6)", x.told(6), 12);
        due("told(5)", x.told(5), 1);
        x.set(0, 0, at(1));
        due("told(5)", x.told(5), 0);
        x.set(0, 0, 4095);
        x.set(2, 0, 4095);
        due("told(6)", x.told(6), 2);
        LeavesObject y = cups(0, 0, 0, 4095);
        due("told(6), all CELLS unlike", y.told(6), 1);
    }

    private static void say() {
        about("promise 9");
        LeavesObject x = with("balk 5 w=2;rise 4;fall 3");
        add(x, 0, at(0));
        due("say(0, 2)", x.say(0, 2), 1);
        due("of(0, 2)", x.of(0, 2), at(1));
        x.set(0, 1, 1);
        due("say(0, 2)", x.say(0, 2), 0);
        due("of(0, 2)", x.of(0, 2), at(1));
        due("of(0, 3)", x.of(0, 3), 5);
        due("of(0, 4)", x.of(0, 4), 1);
        due("say(0, 3)", x.say(0, 3), 1);
        due("of(0, 2)", x.of(0, 2), at(5));
        due("of(0, 3)", x.of(0, 3), 2);
        due("say(0, 2)", x.say(0, 2), 0);
        due("say(0, 3)", x.say(0, 3), 0);
        due("of(0, 3)", x.of(0, 3), 9);
        due("of(0, 4)", x.of(0, 4), 3);
        x.set(0, 1, 2);
        due("say(0, 0)", x.say(0, 0), 1);
        due("of(0, 3)", x.of(0, 3), 0);
        due("told(0)", x.told(0), 0);
        for (int none : WRONG_CUPS) {
            due("say(" + none + ", 0)", x.say(none, 0), NONE);
        }
        for (int none : WRONG_SAYINGS) {
            due("say(0, " + none + ")", x.say(0, none), NONE);
        }
        due("say(1, 0)", x.say(1, 0), NONE);
    }

    private static void sayBeyondMost() throws ReflectiveOperationException {
        about("promise 9");
        LeavesObject x = cups(0, at(0));
        putRefused(x, 0, 9998);
        x.set(0, 1, 9);
        due("say(0, 2)", x.say(0, 2), 0);
        due("of(0, 4)", x.of(0, 4), 9999);
        due("say(0, 2)", x.say(0, 2), STATE);
        due("say(0, 4)", x.say(0, 4), NONE);
        due("after(0, 2, 2)", x.after(0, 2, 2), 1);
        due("firstNo(0, 2)", x.firstNo(0, 2), 1);
        x.evening(0, 2);
        due("ends(1)", x.ends(1), 1);
        x.set(0, 1, 0);
        due("say(0, 2), willing", x.say(0, 2), STATE);
        due("of(0, 2)", x.of(0, 2), at(0));
        due("of(0, 4)", x.of(0, 4), 9999);
        due("after(0, 2, 0)", x.after(0, 2, 0), at(1));
    }

    private static void pass() {
        about("promise 10");
        LeavesObject x = cups(0, 0, 1, 0);
        x.set(0, 1, 9);
        x.set(1, 1, 2);
        due("pass(0)", x.pass(0), 0);
        due("pass(3)", x.pass(3), 3);
        due("of(0, 3)", x.of(0, 3), 6);
        due("of(1, 3)", x.of(1, 3), 0);
        due("pass(-1)", x.pass(-1), BAD);
        due("pass(61)", x.pass(61), BAD);
        due("pass(MIN)", x.pass(Integer.MIN_VALUE), BAD);
        due("pass(MAX)", x.pass(Integer.MAX_VALUE), BAD);
        due("pass(60)", x.pass(60), 63);
        due("of(0, 3)", x.of(0, 3), 0);
        for (int i = 0; i < 165; i++) {
            x.pass(60);
        }
        due("told(0)", x.told(0), 9963);
        due("pass(37)", x.pass(37), STATE);
        due("pass(36)", x.pass(36), 9999);
        due("pass(1)", x.pass(1), STATE);
        due("pass(61)", x.pass(61), BAD);
        due("pass(0)", x.pass(0), 9999);
        due("told(0)", x.told(0), 9999);
    }

    private static void after() {
        about("promise 11");
        LeavesObject x = with("balk 4 w=0");
        add(x, 0, at(0));
        x.set(0, 1, 2);
        due("after(0, 0, 0)", x.after(0, 0, 0), at(0));
        due("after(0, 0, 1)", x.after(0, 0, 1), 4);
        due("after(0, 0, 2)", x.after(0, 0, 2), 1);
        due("after(0, 2, 0)", x.after(0, 2, 0), at(1));
        due("after(0, 2, 1)", x.after(0, 2, 1), 1);
        due("after(0, 2, 2)", x.after(0, 2, 2), 0);
        due("of(0, 2)", x.of(0, 2), at(0));
        due("of(0, 3)", x.of(0, 3), 2);
        due("of(0, 4)", x.of(0, 4), 0);
        for (int none : WRONG_CUPS) {
            due("after(" + none + ", 0, 0)", x.after(none, 0, 0), NONE);
        }
        for (int none : WRONG_SAYINGS) {
            due("after(0, " + none + ", 0)", x.after(0, none, 0), NONE);
        }
        due("after(0, 0, 3)", x.after(0, 0, 3), NONE);
        due("after(0, 0, -1)", x.after(0, 0, -1), NONE);
    }

    private static void afterOfItsOwn() {
        about("promise 11");
        LeavesObject x = with("balk 5 c=1&v=3&k=2&l=1&n=2");
        add(x, 0, 0);
        x.cup(2, 3, at(3));
        x.pass(2);
        x.set(1, 1, 1);
        due("after(1, 2, 2), all so", x.after(1, 2, 2), 1);
        due("comes(1, at(2), -1), all so", x.comes(1, at(2), -1), NOT_SO);
        x.set(1, 0, at(3, 2));
        due("after(1, 2, 2), l=2", x.after(1, 2, 2), 0);
        x.set(1, 0, at(3));
        x.pass(1);
        x.set(1, 1, 1);
        due("after(1, 2, 2), n=3", x.after(1, 2, 2), 0);
        due("comes(1, at(2), -1), n=3", x.comes(1, at(2), -1), 1);
    }

    private static void comes(LeavesObject x, int shape, int many, int... sayings) {
        due("comes(0, " + shape + ", -1)", x.comes(0, shape, -1), many);
        for (int k = 0; k < 4; k++) {
            int due = k < sayings.length ? sayings[k] : NOT_SO;
            due("comes(0, " + shape + ", " + k + ")", x.comes(0, shape, k), due);
        }
    }

    private static void comes() {
        about("promise 12");
        LeavesObject x = cups(0, at(0));
        comes(x, at(0), 0);
        comes(x, at(0, 1), 1, 0);
        comes(x, at(1), 1, 2);
        comes(x, at(4), 1, 3);
        comes(x, 0, 1, 1);
        comes(x, at(0, 1, 2), 2, 0, 0);
        comes(x, at(5), 2, 2, 3);
        comes(x, at(8), 2, 3, 3);
        comes(x, at(3), 3, 2, 2, 2);
        comes(x, at(4, 5, 6, 7), 4, 0, 0, 0, 3);
        comes(x, at(8, 9, 10, 11), NOT_SO);
        comes(x, 4095, NOT_SO);
        due("of(0, 2)", x.of(0, 2), at(0));
        for (int none : WRONG_CUPS) {
            due("comes(" + none + ", -1, 0)", x.comes(none, -1, 0), NONE);
        }
        due("comes(0, -1, 4)", x.comes(0, -1, 4), NONE);
        due("comes(0, 1, -2)", x.comes(0, 1, -2), NONE);
        for (int bad : WRONG_LEAVES) {
            due("comes(0, " + bad + ", 0)", x.comes(0, bad, 0), BAD);
        }
    }

    private static void comesWithMoods() {
        about("promise 12");
        LeavesObject x = with("balk 5 w=2");
        add(x, 0, at(0));
        x.set(0, 1, 1);
        comes(x, at(1), 4, 3, 2, 3, 3);
        comes(x, at(5), 2, 3, 2);
        x.set(0, 1, 0);
        comes(x, at(1), 1, 2);
        due("of(0, 3)", x.of(0, 3), 0);
        due("of(0, 4)", x.of(0, 4), 0);
    }

    private static void near(LeavesObject x, int shape, int many, int... sayings) {
        due("near(0, " + shape + ", -1)", x.near(0, shape, -1), many);
        for (int k = 0; k < 3; k++) {
            due("near(0, " + shape + ", " + k + ")", x.near(0, shape, k), sayings[k]);
        }
    }

    private static void near() {
        about("promise 13");
        LeavesObject x = cups(0, at(0));
        near(x, at(0), 0, 3, 3, 3);
        near(x, 0, 0, 1, 0, 0);
        near(x, at(1), 1, 0, 1, 1);
        near(x, at(0, 1, 2, 3), 0, 0, 0, 0);
        near(x, 4095, 8, 0, 0, 0);
        near(x, at(8), 1, 0, 3, 3);
        due("of(0, 2)", x.of(0, 2), at(0));
        for (int none : WRONG_CUPS) {
            due("near(" + none + ", -1, 0)", x.near(none, -1, 0), NONE);
        }
        due("near(0, -1, 3)", x.near(0, -1, 3), NONE);
        due("near(0, 1, -2)", x.near(0, 1, -2), NONE);
        for (int bad : WRONG_LEAVES) {
            due("near(0, " + bad + ", 0)", x.near(0, bad, 0), BAD);
        }
    }

    private static void fullest() {
        about("promise 14");
        LeavesObject x = cups(0, at(0), 4, 4095, 4, at(8), 3, at(0, 4, 8));
        due("fullest(0)", x.fullest(0), 4);
        due("fullest(1)", x.fullest(1), 8);
        due("fullest(2)", x.fullest(2), 4);
        due("fullest(3)", x.fullest(3), 12);
        x.set(3, 1, 9);
        due("fullest(3), MOOD 9", x.fullest(3), 3);
        x.set(0, 1, 5);
        due("fullest(0), MOOD 5", x.fullest(0), 4);
        due("of(3, 4)", x.of(3, 4), 0);
        for (int none : WRONG_CUPS) {
            due("fullest(" + none + ")", x.fullest(none), NONE);
        }
        due("fullest(4)", x.fullest(4), NONE);
    }

    private static void firstNo() {
        about("promise 15");
        LeavesObject x = with("balk 5 l>2;fall 0");
        add(x, 0, at(0));
        due("firstNo(0, 0)", x.firstNo(0, 0), NOT_SO);
        x.set(0, 1, 3);
        due("firstNo(0, 0)", x.firstNo(0, 0), 3);
        due("firstNo(0, 2)", x.firstNo(0, 2), NOT_SO);
        x.set(0, 1, 6);
        due("firstNo(0, 0)", x.firstNo(0, 0), 1);
        due("of(0, 2)", x.of(0, 2), at(0));
        due("of(0, 3)", x.of(0, 3), 6);
        due("of(0, 4)", x.of(0, 4), 0);
        for (int none : WRONG_CUPS) {
            due("firstNo(" + none + ", 0)", x.firstNo(none, 0), NONE);
        }
        for (int none : WRONG_SAYINGS) {
            due("firstNo(0, " + none + ")", x.firstNo(0, none), NONE);
        }
        innOf(x, "balk 5 l>2;fall 1");
        x.set(0, 1, 2);
        due("firstNo(0, 0), FALL 1", x.firstNo(0, 0), NOT_SO);
    }

    private static void nextOfAllUnlike() {
        about("promise 17");
        LeavesObject x = cups(0, 0);
        due("next(4095), no LEAVES", x.next(4095), 0);
    }

    private static void show() {
        about("promise 16");
        LeavesObject x = new LeavesObject();
        due("show(0)", x.show(0), 0);
        due("show(1)", x.show(1), NOT_SO);
        add(x, 0, at(0), 0, at(1), 0, at(2), 0, at(1, 2));
        due("show(0)", x.show(0), 0);
        due("show(at(1))", x.show(at(1)), 0b10);
        due("show(at(1, 2))", x.show(at(1, 2)), 0b1000);
        due("show(at(0, 1))", x.show(at(0, 1)), 0b11);
        due("show(at(0, 1, 2))", x.show(at(0, 1, 2)), 0b1001);
        due("show(at(3))", x.show(at(3)), NOT_SO);
        add(x, 0, at(3));
        due("show(at(0, 1, 2, 3))", x.show(at(0, 1, 2, 3)), 0b11001);
        for (int bad : WRONG_LEAVES) {
            due("show(" + bad + ")", x.show(bad), BAD);
        }
    }

    private static void next() {
        about("promise 17");
        LeavesObject x = new LeavesObject();
        due("next(0)", x.next(0), NOT_SO);
        due("next(4096)", x.next(4096), BAD);
        add(x, 0, at(0));
        due("next(at(1))", x.next(at(1)), 2);
        due("next(at(0))", x.next(at(0)), 0);
        due("next(0)", x.next(0), 1);
        due("next(at(4))", x.next(at(4)), 3);
        add(x, 0, at(11));
        due("next(at(0, 8))", x.next(at(0, 8)), 12);
        due("next(at(0, 3))", x.next(at(0, 3)), 13);
        due("next(at(1, 11))", x.next(at(1, 11)), 2);
        due("next(at(1))", x.next(at(1)), 2);
        x.set(0, 1, 6);
        due("next(at(1))", x.next(at(1)), 11);
        due("of(0, 2)", x.of(0, 2), at(0));
        due("of(0, 4)", x.of(0, 4), 0);
        for (int bad : WRONG_LEAVES) {
            due("next(" + bad + ")", x.next(bad), BAD);
        }
    }

    private static void see() {
        about("promise 18");
        LeavesObject x = new LeavesObject();
        due("see(-1, -1)", x.see(-1, -1), 0);
        due("see(4, -1)", x.see(4, -1), NONE);
        due("see(-2, 0)", x.see(-2, 0), NONE);
        due("see(0, -1)", x.see(0, -1), BAD);
        due("see(0, 4096)", x.see(0, 4096), BAD);
        due("count(2)", x.count(2), 0);
        for (int i = 1; i <= 5; i++) {
            due("see(3, 4095)", x.see(3, 4095), i);
        }
        due("see(0, 0)", x.see(0, 0), FULL);
        due("see(0, 4096)", x.see(0, 4096), BAD);
        due("see(4, 0)", x.see(4, 0), NONE);
        due("count(2)", x.count(2), 5);
        due("see(-1, 7)", x.see(-1, 7), 0);
        due("count(2)", x.count(2), 0);
        due("see(0, 0)", x.see(0, 0), 1);
    }

    private static void fit(String call, int many, int gotMany, int least, int gotLeast) {
        due(call + "(0, 0)", gotMany, many);
        due(call + "(0, 1)", gotLeast, least);
    }

    private static void moods() {
        about("promise 19");
        LeavesObject x = with("balk 2 w=0");
        add(x, 0, at(0), 0, 0);
        fit("moods", 10, x.moods(0, 0), 0, x.moods(0, 1));
        x.see(0, at(0, 1));
        fit("moods", 4, x.moods(0, 0), 0, x.moods(0, 1));
        x.see(2, at(1));
        fit("moods", 4, x.moods(0, 0), 0, x.moods(0, 1));
        x.see(2, at(0));
        fit("moods", 0, x.moods(0, 0), NOT_SO, x.moods(0, 1));
        x.see(-1, 0);
        x.see(0, at(0));
        fit("moods", 6, x.moods(0, 0), 4, x.moods(0, 1));
        x.see(3, at(4));
        fit("moods", 2, x.moods(0, 0), 4, x.moods(0, 1));
        due("moods(1, 0)", x.moods(1, 0), 0);
        due("of(0, 3)", x.of(0, 3), 0);
        due("of(0, 4)", x.of(0, 4), 0);
        for (int none : WRONG_CUPS) {
            due("moods(" + none + ", 0)", x.moods(none, 0), NONE);
        }
        due("moods(0, 2)", x.moods(0, 2), NONE);
        due("moods(0, -1)", x.moods(0, -1), NONE);
    }

    private static void can() {
        about("promise 20");
        LeavesObject x = with("balk 9 v>4");
        add(x, 0, at(0));
        fit("can", 10, x.can(0, 0), 0, x.can(0, 1));
        x.see(0, at(0, 1));
        fit("can", 10, x.can(0, 0), 0, x.can(0, 1));
        x.set(0, 1, 1);
        fit("can", 5, x.can(0, 0), 0, x.can(0, 1));
        x.see(2, at(1));
        fit("can", 5, x.can(0, 0), 0, x.can(0, 1));
        x.see(2, at(0));
        fit("can", 0, x.can(0, 0), NOT_SO, x.can(0, 1));
        x.see(-1, 0);
        x.see(3, at(0));
        fit("can", 5, x.can(0, 0), 5, x.can(0, 1));
        due("of(0, 1)", x.of(0, 1), 0);
        for (int none : WRONG_CUPS) {
            due("can(" + none + ", 0)", x.can(none, 0), NONE);
        }
        due("can(0, 2)", x.can(0, 2), NONE);
        due("can(0, -1)", x.can(0, -1), NONE);
    }

    private static void odds(LeavesObject x, int cup, int q, long above, long below) {
        due("odds(" + cup + ", " + q + ", 0)", x.odds(cup, q, 0), above);
        due("odds(" + cup + ", " + q + ", 1)", x.odds(cup, q, 1), below);
    }

    private static void odds() {
        about("promise 21");
        LeavesObject x = cups(0, at(0), 4, at(0, 5));
        odds(x, 0, 0, 1, 1);
        odds(x, 0, 1, 3, 4);
        odds(x, 0, 2, 1, 4);
        odds(x, 0, 3, 0, 1);
        odds(x, 0, 12, 0, 1);
        odds(x, 1, 1, 3, 4);
        odds(x, 1, 2, 1, 2);
        odds(x, 1, 4, 1, 4);
        x.set(0, 1, 6);
        odds(x, 0, 1, 1, 1);
        odds(x, 0, 2, 0, 1);
        due("of(0, 4)", x.of(0, 4), 0);
        for (int none : WRONG_CUPS) {
            due("odds(" + none + ", 0, 0)", x.odds(none, 0, 0), NO);
        }
        due("odds(0, -1, 0)", x.odds(0, -1, 0), NO);
        due("odds(0, 13, 0)", x.odds(0, 13, 0), NO);
        due("odds(0, 0, 2)", x.odds(0, 0, 2), NO);
        due("odds(0, 0, -1)", x.odds(0, 0, -1), NO);
    }

    private static void mean(LeavesObject x, long above, long below) {
        due("mean(0)", x.mean(0), above);
        due("mean(1)", x.mean(1), below);
    }

    private static void mean() {
        about("promise 22");
        LeavesObject x = new LeavesObject();
        mean(x, NO, NO);
        add(x, 0, 0);
        mean(x, 0, 1);
        x.set(0, 0, at(1, 2, 11));
        mean(x, 3, 1);
        add(x, 0, 0);
        x.set(0, 0, 0);
        mean(x, 0, 1);
        x.set(0, 0, at(3));
        mean(x, 1, 2);
        x.set(1, 0, at(3));
        mean(x, 1, 1);
        x.set(1, 0, 4095);
        mean(x, 13, 2);
        add(x, 0, at(0, 1), 0, at(0));
        mean(x, 4, 1);
        x.set(3, 0, at(0, 1, 2));
        mean(x, 9, 2);
        due("mean(2)", x.mean(2), NO);
        due("mean(-1)", x.mean(-1), NO);
    }

    private static void evening() {
        about("promise 23");
        LeavesObject x = cups(0, 0, 0, 0);
        due("evening(-1, 99)", x.evening(-1, 99), 0);
        due("evening(2, 0)", x.evening(2, 0), NONE);
        due("evening(6, 0)", x.evening(6, 0), NONE);
        due("evening(-2, 0)", x.evening(-2, 0), NONE);
        for (int none : WRONG_SAYINGS) {
            due("evening(0, " + none + ")", x.evening(0, none), NONE);
        }
        due("count(3)", x.count(3), 0);
        due("evening(0, 3)", x.evening(0, 3), 1);
        due("evening(5, 99)", x.evening(5, 99), 2);
        due("evening(5, -1)", x.evening(5, -1), 3);
        for (int i = 4; i <= 10; i++) {
            due("evening(1, 0)", x.evening(1, 0), i);
        }
        due("evening(1, 0)", x.evening(1, 0), FULL);
        due("evening(5, 0)", x.evening(5, 0), FULL);
        due("evening(1, 4)", x.evening(1, 4), NONE);
        due("count(3)", x.count(3), 10);
        due("evening(-1, 0)", x.evening(-1, 0), 0);
        due("count(3)", x.count(3), 0);
    }

    private static void ends() {
        about("promise 24");
        LeavesObject x = with("rise 0");
        add(x, 0, at(0), 5, at(5));
        due("ends(0)", x.ends(0), at(0, 5));
        due("ends(1)", x.ends(1), 0);
        x.set(0, 1, 6);
        x.evening(0, 2);
        due("ends(0)", x.ends(0), at(0, 5));
        due("ends(1)", x.ends(1), 1);
        x.evening(5, 0);
        x.evening(0, 2);
        due("ends(0)", x.ends(0), at(1, 5));
        due("ends(1)", x.ends(1), 1);
        x.evening(1, 0);
        due("ends(0)", x.ends(0), at(1, 4, 5));
        x.evening(5, 0);
        x.evening(1, 0);
        due("ends(0)", x.ends(0), at(1, 4, 5, 6));
        x.set(1, 1, 9);
        due("ends(0)", x.ends(0), at(1, 5));
        due("ends(1)", x.ends(1), 3);
        due("told(0)", x.told(0), 0);
        due("told(3)", x.told(3), at(0, 5));
        due("of(0, 3)", x.of(0, 3), 6);
        due("of(1, 4)", x.of(1, 4), 0);
        due("ends(2)", x.ends(2), NONE);
        due("ends(-1)", x.ends(-1), NONE);
    }

    private static void book() {
        about("promise 25");
        LeavesObject x = cups(0, at(0), 0, 0);
        due("book(-1, -1)", x.book(-1, -1), 0);
        due("book(2, -1)", x.book(2, -1), NONE);
        due("book(5, 0)", x.book(5, 0), NONE);
        due("book(-2, 0)", x.book(-2, 0), NONE);
        for (int bad : WRONG_LEAVES) {
            due("book(0, " + bad + ")", x.book(0, bad), BAD);
        }
        due("count(4)", x.count(4), 0);
        for (int i = 1; i <= 8; i++) {
            due("book(1, 4095)", x.book(1, 4095), i);
        }
        due("book(1, 0)", x.book(1, 0), FULL);
        due("book(1, -1)", x.book(1, -1), BAD);
        due("book(2, 0)", x.book(2, 0), NONE);
        due("count(4)", x.count(4), 8);
        due("book(-1, 4)", x.book(-1, 4), 0);
        due("count(4)", x.count(4), 0);
    }

    private static void looked() {
        about("promise 26");
        LeavesObject x = cups(0, at(0), 0, at(1));
        due("looked()", x.looked(), NOT_SO);
        x.book(1, at(1));
        x.book(0, at(0));
        due("looked()", x.looked(), NOT_SO);
        x.book(1, at(0));
        x.book(0, at(1));
        due("looked()", x.looked(), 2);
        x.set(0, 0, 0);
        due("looked()", x.looked(), 1);
        x.set(1, 0, 0);
        due("looked()", x.looked(), 0);
    }

    private static void judge() {
        about("promise 27");
        LeavesObject x = new LeavesObject();
        due("judge(0, 0)", x.judge(0, 0), NOT_SO);
        add(x, 0, at(0), 0, at(1), 0, 4095);
        due("judge(0, 0)", x.judge(0, 0), 100);
        x.tape(0, 1, 5);
        for (int i = 1; i <= 3; i++) {
            x.item(0, i, x.of(i - 1, 2));
        }
        due("judge(0, 1)", x.judge(0, 1), NOT_SO);
        due("judge(0, 0)", x.judge(0, 0), 0);
        x.set(2, 0, 1);
        due("judge(0, 1)", x.judge(0, 1), 2);
        x.set(1, 0, 0);
        due("judge(0, 1)", x.judge(0, 1), 1);
        x.set(0, 0, 0);
        due("judge(0, 4)", x.judge(0, 4), 101);
        x.item(0, 3, 0);
        due("judge(0, 3)", x.judge(0, 3), 102);
        for (int place : new int[] {-1, 5, 6, Integer.MIN_VALUE, Integer.MAX_VALUE}) {
            due("judge(0, " + place + ")", x.judge(0, place), 100);
        }
        x.tape(1, 1, 0);
        due("judge(1, 0)", x.judge(1, 0), 100);
        for (int sort : new int[] {0, 2, 3, 4}) {
            x.tape(2, sort, 9);
            due("judge(2, -1)", x.judge(2, -1), CAST);
        }
        for (int none : WRONG_TAPES) {
            due("judge(" + none + ", 0)", x.judge(none, 0), NONE);
        }
    }

    private static void imageAndUndo() {
        about("promise 28, 29");
        LeavesObject x = new LeavesObject();
        due("undo()", x.undo(), STATE);
        due("image()", x.image(), 0);
        innOf(x, "rise 7");
        x.cup(6, 4, at(2));
        due("undo()", x.undo(), 0);
        due("told(1)", x.told(1), 2);
        due("count(1)", x.count(1), 1);
        due("inn", innOf(x, "rise 8"), 1);
        x.cup(6, 4, at(2));
        x.set(0, 1, 6);
        x.say(0, 0);
        x.line(0, 2, 5);
        x.pass(3);
        x.see(0, 1);
        x.evening(0, 2);
        x.evening(5, 0);
        x.book(0, at(2));
        x.tape(3, 2, 4);
        due("image()", x.image(), 1);
        x.act(0, 0, 0);
        innOf(x, "rise 9");
        x.cup(0, 0, 0);
        x.set(0, 0, 0);
        x.set(0, 1, 9);
        x.say(0, 0);
        x.line(0, 2, 1);
        x.pass(9);
        x.see(1, 2);
        x.evening(-1, 0);
        x.evening(0, 3);
        x.book(-1, 0);
        x.feed('r');
        x.item(3, 1, 77);
        for (int times = 0; times < 2; times++) {
            due("undo()", x.undo(), 1);
            due("count(0)", x.count(0), 1);
            due("of(0, 0)", x.of(0, 0), 6);
            due("of(0, 1)", x.of(0, 1), 4);
            due("of(0, 2)", x.of(0, 2), at(2));
            due("of(0, 3)", x.of(0, 3), 6);
            due("of(0, 4)", x.of(0, 4), 1);
            due("told(0)", x.told(0), 3);
            due("told(1)", x.told(1), 8);
            due("count(1)", x.count(1), 3);
            due("count(2)", x.count(2), 1);
            due("count(3)", x.count(3), 2);
            due("count(4)", x.count(4), 1);
            due("count(5)", x.count(5), 1);
            due("count(6)", x.count(6), 2);
            due("read(3, 1)", x.read(3, 1), 77);
            due("looked()", x.looked(), NOT_SO);
            due("ends(1)", x.ends(1), 1);
            due("line(0, 2, 3)", x.line(0, 2, 3), 5);
            x.set(0, 0, at(4));
            x.see(-1, 0);
        }
        due("of(1, 0)", x.of(1, 0), NONE);
    }

    private static void act(LeavesObject x, int cup, int act, int value, int... bodies) {
        String call = "act(" + cup + ", " + act + ", 10)";
        due(call, x.act(cup, act, 10), value);
        due("count(6) behind " + call, x.count(6), bodies.length);
        for (int i = 0; i < bodies.length; i++) {
            due("trace(" + i + ") behind " + call, x.trace(i), bodies[i]);
        }
        due("trace behind " + call, x.trace(bodies.length), NONE);
    }

    private static void acts() {
        about("promise 30, 31");
        LeavesObject x = new LeavesObject();
        for (int kind = 0; kind < 5; kind++) {
            x.cup(kind, 3, 0);
        }
        act(x, 0, 0, 10, 10);
        act(x, 0, 1, 7, 11, 10);
        act(x, 0, 2, 14, 12, 11, 10);
        act(x, 1, 0, 11, 10);
        act(x, 1, 1, 14, 20, 11, 10);
        act(x, 1, 2, 28, 12, 20, 11, 10);
        act(x, 2, 0, 32, 30, 10);
        act(x, 2, 1, 29, 11, 30, 10);
        act(x, 2, 2, 58, 12, 11, 30, 10);
        act(x, 3, 0, 13, 10);
        act(x, 3, 1, 10, 11, 10);
        act(x, 3, 2, 21, 40, 12, 11, 10, 11, 10);
        act(x, 4, 0, -14, 50, 10);
        act(x, 4, 1, -24, 51, 20, 11, 50, 10);
        act(x, 4, 2, -48, 12, 51, 20, 11, 50, 10);
        LeavesObject y = new LeavesObject();
        y.cup(6, 5, 0);
        y.cup(0, 0, 0);
        y.cup(5, 3, 0);
        act(y, 0, 0, 15, 71, 10);
        act(y, 0, 1, 12, 70, 11, 71, 10, 10);
        act(y, 0, 2, 25, 40, 12, 70, 11, 71, 10, 10, 70, 11, 71, 10, 10);
        act(y, 2, 0, 32, 30, 10);
        act(y, 2, 1, 29, 11, 30, 10);
        act(y, 2, 2, 46, 60, 12, 11, 30, 10);
        due("act(1, 0, MAX)", y.act(1, 0, Integer.MAX_VALUE), Integer.MIN_VALUE);
        due("act(2, 0, MAX)", y.act(2, 0, Integer.MAX_VALUE), Integer.MAX_VALUE);
    }

    private static void actsOfNone() {
        about("promise 30, 31");
        LeavesObject x = new LeavesObject();
        due("act(0, 0, 5)", x.act(0, 0, 5), 0);
        x.cup(0, 1, 0);
        due("trace(0)", x.trace(0), NONE);
        for (int act : new int[] {-1, 3, Integer.MIN_VALUE, Integer.MAX_VALUE}) {
            x.act(0, 2, 5);
            due("count(6)", x.count(6), 3);
            due("act(0, " + act + ", 5)", x.act(0, act, 5), 0);
            due("count(6)", x.count(6), 0);
            due("trace(0)", x.trace(0), NONE);
        }
        for (int none : WRONG_CUPS) {
            x.act(0, 2, 5);
            due("act(" + none + ", 0, 5)", x.act(none, 0, 5), 0);
            due("count(6)", x.count(6), 0);
        }
        x.act(0, 2, 5);
        due("trace(-1)", x.trace(-1), NONE);
        due("trace(MIN)", x.trace(Integer.MIN_VALUE), NONE);
        due("trace(MAX)", x.trace(Integer.MAX_VALUE), NONE);
    }

    private static void taken() {
        about("promise 32");
        int[][] above = {{0}, {0, 1}, {0, 2}, {0, 3}, {0, 1, 4}, {0, 2, 5}, {0, 3, 6}};
        for (int kind = 0; kind <= 6; kind++) {
            LeavesObject x = cups(kind, 0);
            for (int k = 0; k <= 6; k++) {
                int due = CAST;
                for (int one : above[kind]) {
                    due = one == k ? kind : due;
                }
                due("taken(a " + kind + ", " + k + ")", x.taken(0, k), due);
                due("taken(1, " + k + ")", x.taken(1, k), NOTHING);
            }
            due("taken(0, 7)", x.taken(0, 7), BAD);
            due("taken(9, -1)", x.taken(9, -1), BAD);
        }
    }

    private static void count() {
        about("promise 33");
        LeavesObject x = cups(0, 0, 0, 0);
        innOf(x, "rise 1");
        innOf(x, "rise 2");
        innOf(x, "rise 3");
        x.see(0, 0);
        for (int i = 0; i < 4; i++) {
            x.evening(0, 0);
        }
        for (int i = 0; i < 5; i++) {
            x.book(0, 0);
        }
        feed(x, "rise 4");
        x.act(0, 2, 0);
        int[] due = {2, 3, 1, 4, 5, 6, 3};
        for (int what = 0; what < due.length; what++) {
            due("count(" + what + ")", x.count(what), due[what]);
        }
        due("count(7)", x.count(7), BAD);
        due("count(-1)", x.count(-1), BAD);
    }

    private static void tape() {
        about("promise 34");
        LeavesObject x = new LeavesObject();
        for (int sort = 0; sort <= 4; sort++) {
            due("tape(0, " + sort + ", 60)", x.tape(0, sort, 60), 1);
            due("read(0, 59)", x.read(0, 59), 0);
            x.item(0, 59, 1);
            due("tape(0, " + sort + ", 61)", x.tape(0, sort, 61), BAD);
            due("tape(0, " + sort + ", -1)", x.tape(0, sort, -1), SIZE);
            due("read(0, 59)", x.read(0, 59), 1);
        }
        due("tape(0, 5, -1)", x.tape(0, 5, -1), BAD);
        due("tape(0, -2, 0)", x.tape(0, -2, 0), BAD);
        due("tape(0, 1, MIN)", x.tape(0, 1, Integer.MIN_VALUE), SIZE);
        due("tape(0, 1, MAX)", x.tape(0, 1, Integer.MAX_VALUE), BAD);
        due("tape(0, 1, 0)", x.tape(0, 1, 0), 1);
        due("read(0, 0)", x.read(0, 0), NO);
        due("item(0, 0, 0)", x.item(0, 0, 0), PLACE);
        for (int n : new int[] {0, -1, 61, Integer.MAX_VALUE}) {
            due("tape(0, -1, " + n + ")", x.tape(0, -1, n), 1);
        }
        due("item(0, 0, 0)", x.item(0, 0, 0), NOTHING);
        for (int none : WRONG_TAPES) {
            due("tape(" + none + ", 9, -1)", x.tape(none, 9, -1), NONE);
        }
        due("tape(5, 0, 2)", x.tape(5, 0, 2), 1);
    }

    private static void itemAndRead(LeavesObject x, int sort, long v, long due) {
        x.tape(1, sort, 3);
        due("item(1, 2, " + v + ") of sort " + sort, x.item(1, 2, v), 1);
        due("read(1, 2) of sort " + sort, x.read(1, 2), due);
        due("read(1, 1) of sort " + sort, x.read(1, 1), 0);
    }

    private static void items() {
        about("promise 35, 36");
        LeavesObject x = new LeavesObject();
        itemAndRead(x, 0, 127, 127);
        itemAndRead(x, 0, 128, -128);
        itemAndRead(x, 0, 0x1FF, -1);
        itemAndRead(x, 1, 32768, -32768);
        itemAndRead(x, 1, 70000, 4464);
        itemAndRead(x, 2, 1L << 31, Integer.MIN_VALUE);
        itemAndRead(x, 2, (1L << 32) + 5, 5);
        itemAndRead(x, 3, NO, NO);
        itemAndRead(x, 3, Long.MAX_VALUE, Long.MAX_VALUE);
        itemAndRead(x, 4, 256, 1);
        itemAndRead(x, 4, -1, 1);
        itemAndRead(x, 4, 0, 0);
        for (int place : new int[] {-1, 3, Integer.MIN_VALUE, Integer.MAX_VALUE}) {
            due("item(1, " + place + ", 1)", x.item(1, place, 1), PLACE);
            due("read(1, " + place + ")", x.read(1, place), NO);
            due("item(0, " + place + ", 1)", x.item(0, place, 1), NOTHING);
            due("read(0, " + place + ")", x.read(0, place), NO);
        }
        for (int none : WRONG_TAPES) {
            due("item(" + none + ", 0, 1)", x.item(none, 0, 1), NONE);
            due("read(" + none + ", 0)", x.read(none, 0), NO);
        }
    }

    private static void tapeDue(LeavesObject x, int tape, int... items) {
        for (int i = 0; i < items.length; i++) {
            due("read(" + tape + ", " + i + ")", x.read(tape, i), items[i]);
        }
    }

    private static void shift() {
        about("promise 37");
        LeavesObject x = new LeavesObject();
        x.tape(0, 2, 5);
        x.tape(1, 2, 3);
        x.tape(2, 3, 5);
        for (int i = 0; i < 5; i++) {
            x.item(0, i, i + 1);
        }
        due("shift(0, 1, 1, 0, 2)", x.shift(0, 1, 1, 0, 2), 2);
        tapeDue(x, 1, 2, 3, 0);
        due("shift(0, 0, 0, 1, 4)", x.shift(0, 0, 0, 1, 4), 4);
        tapeDue(x, 0, 1, 1, 2, 3, 4);
        due("shift(0, 1, 0, 0, 4)", x.shift(0, 1, 0, 0, 4), 4);
        tapeDue(x, 0, 1, 2, 3, 4, 4);
        due("shift(0, 5, 1, 3, 0)", x.shift(0, 5, 1, 3, 0), 0);
        due("shift(0, 0, 2, 0, -1)", x.shift(0, 0, 2, 0, -1), CAST);
        due("shift(0, 0, 3, 0, -1)", x.shift(0, 0, 3, 0, -1), NOTHING);
        due("shift(3, 0, 2, 0, -1)", x.shift(3, 0, 2, 0, -1), NOTHING);
        due("shift(3, 0, 6, 0, 1)", x.shift(3, 0, 6, 0, 1), NONE);
        for (int none : WRONG_TAPES) {
            due("shift(" + none + ", 0, 1, 0, 1)", x.shift(none, 0, 1, 0, 1), NONE);
            due("shift(0, 0, " + none + ", 0, 1)", x.shift(0, 0, none, 0, 1), NONE);
        }
        int max = Integer.MAX_VALUE;
        int[][] places = {{0, 0, -1}, {-1, 0, 1}, {0, -1, 1}, {0, 0, 4}, {4, 0, 2}, {0, 2, 2}, {6, 0, 0}, {0, 4, 0},
            {max, 0, 1}, {0, max, 1}, {0, 0, max}, {max, max, max}, {1, 1, max}, {Integer.MIN_VALUE, 0, max}};
        for (int[] p : places) {
            String call = "shift(0, " + p[0] + ", 1, " + p[1] + ", " + p[2] + ")";
            due(call, x.shift(0, p[0], 1, p[1], p[2]), PLACE);
        }
        tapeDue(x, 0, 1, 2, 3, 4, 4);
        tapeDue(x, 1, 2, 3, 0);
    }

    public static void main(String[] args) throws ReflectiveOperationException {
        newObject();
        cup();
        freshCupBehindUndo();
        of();
        sayingsDo();
        sayingsDoByNight();
        wills();
        set();
        line();
        feeds();
        faults();
        inns();
        innBehindManyFaults();
        told();
        alikeFirst();
        say();
        sayBeyondMost();
        pass();
        after();
        afterOfItsOwn();
        comes();
        comesWithMoods();
        near();
        fullest();
        firstNo();
        show();
        next();
        nextOfAllUnlike();
        see();
        moods();
        can();
        odds();
        mean();
        evening();
        ends();
        book();
        looked();
        judge();
        imageAndUndo();
        acts();
        actsOfNone();
        taken();
        count();
        tape();
        items();
        shift();
        end("promises");
    }
}
