import java.io.IOException;

/**
 * The sentences of the document's "Terms" that name a boundary case, in their order, each with a
 * test of its own: the last that still is so and the first that is not. What a call refuses is
 * looked at in RefusalsTest.
 */
public final class TermsTest extends Checks {
    private static final String INN_OF_100 = "will 11 " + "c=0|".repeat(22) + "c=00";

    // ---- 1: leaves and cells

    private static int row(int cell) {
        return cell / 4;
    }

    private static int column(int cell) {
        return cell % 4;
    }

    private static boolean areNext(int cell, int other) {
        return Math.abs(row(cell) - row(other)) + Math.abs(column(cell) - column(other)) == 1;
    }

    private static void does(LeavesObject x, int leaves, int saying, int want) {
        x.set(0, 0, leaves);
        due("SAYING " + saying + " with LEAVES " + leaves, x.of(0, 20 + saying), want);
    }

    private static void cells() throws IOException {
        sentence("LEAVES lie in CELLS 0 .. 11: CELL c is in ROW c by 4 (cut), COLUMN c modulo 4.");
        LeavesObject x = cups(0, 0);
        for (int cell = 0; cell < 12; cell++) {
            does(x, at(cell), 2, at(4 * row(cell) + (column(cell) + 1) % 4));
            does(x, at(cell), 3, at((cell + 4) % 12));
        }
    }

    private static void bits() throws IOException, ReflectiveOperationException {
        sentence("What lies where is told as bits (0 .. 4095; bit c: CELL c).");
        LeavesObject x = cups(0, 0);
        for (int cell = 0; cell < 12; cell++) {
            x.set(0, 0, 1 << cell);
            due("of(0, 2)", x.of(0, 2), 1 << cell);
            due("told(3)", x.told(3), 1 << cell);
            due("show", x.show(1 << cell), 1);
        }
        answers(x, 0, "see(-1, 0)", "evening(-1, 0)", "book(-1, 0)");
        answers(x, 2048, "set(0, 0, 0)");
        answers(x, 0, "comes(0, 0, -1)", "show(0)", "next(0)", "set(0, 0, 4095)");
        answers(x, 0, "comes(0, 4095, -1)", "near(0, 4095, -1)", "next(4095)");
        answers(x, 1, "cup(0, 0, 4095)", "see(0, 4095)", "book(0, 4095)", "show(4095)");
        answers(x, 2, "cup(0, 0, 0)", "see(0, 0)", "book(0, 0)");
        answers(x, BAD, "cup(0, 0, 4096)", "set(0, 0, 4096)", "comes(0, 4096, 0)", "near(0, 4096, 0)", "show(4096)",
            "next(4096)", "see(0, 4096)", "book(0, 4096)");
        answers(x, BAD, "cup(0, 0, -1)", "set(0, 0, -1)", "comes(0, -1, 0)", "near(0, -1, 0)", "show(-1)", "next(-1)",
            "see(0, -1)", "book(0, -1)");
    }

    private static void nextToOneAnother() throws IOException {
        sentence("CELLS are NEXT to one another, if they are in one ROW, in COLUMNS 1 apart, or in one COLUMN, in ROWS 1 apart.");
        LeavesObject x = cups(0, 0);
        for (int cell = 0; cell < 12; cell++) {
            for (int other = cell + 1; other < 12; other++) {
                does(x, at(cell, other), 1, areNext(cell, other) ? at(cell, other) : 0);
            }
        }
    }

    private static void fiveCups() throws IOException {
        sentence("CUPS 0 .. 4, as they come, are of KINDS: 0 CUP; 1 SHY, 2 STUBBORN, 3 PLAIN under CUP;");
        LeavesObject x = new LeavesObject();
        for (int number = 0; number <= 4; number++) {
            due("of a CUP ahead of it", x.of(number, 0), NONE);
            due("cup", x.cup(6 - number, number, number), number);
            due("of(" + number + ", 0)", x.of(number, 0), 6 - number);
        }
        due("a sixth cup", x.cup(0, 0, 0), FULL);
        due("of(5, 0)", x.of(5, 0), NONE);
        due("of(4, 0)", x.of(4, 0), 2);
        due("taken(0, 3), a TOLD", x.taken(0, 3), 6);
        due("taken(2, 1), a BLANK", x.taken(2, 1), 4);
        due("taken(1, 2), a WISE", x.taken(1, 2), 5);
        due("taken(3, 0), a PLAIN", x.taken(3, 0), 3);
    }

    private static void numbersOfACup() throws IOException {
        sentence("with a number v (0 .. 9), LEAVES (bits), a MOOD (0 .. 9; 0 at first), REFUSED (how often, 0 .. 9999; 0 at first).");
        LeavesObject x = new LeavesObject();
        x.cup(0, 0, 0);
        x.cup(0, 9, 4095);
        int[] first = {0, 0, 0, 0, 0};
        int[] second = {0, 9, 4095, 0, 0};
        for (int what = 0; what <= 4; what++) {
            due("of(0, " + what + ")", x.of(0, what), first[what]);
            due("of(1, " + what + ")", x.of(1, what), second[what]);
        }
        due("set(0, 1, 9)", x.set(0, 1, 9), 0);
        due("set(0, 1, 0)", x.set(0, 1, 0), 9);
    }

    private static void firstNight() throws IOException {
        sentence("NIGHT: 0 at first.");
        due("told(0)", new LeavesObject().told(0), 0);
    }

    // ---- 1: inns

    private static void innIs(String text) {
        LeavesObject x = new LeavesObject();
        due("inn of " + text, innOf(x, text), 0);
    }

    private static void fault(String text, int place) {
        LeavesObject x = new LeavesObject();
        due("inn of " + text, innOf(x, text), -10 - place);
        due("count(1) behind " + text, x.count(1), 0);
        due("count(5) behind " + text, x.count(5), 0);
    }

    private static void hundredBytes() throws IOException {
        sentence("AN INN is read from THE TEXT (bytes, 100 at most):");
        LeavesObject x = cups(0, 0);
        feed(x, INN_OF_100);
        due("count(5)", x.count(5), 100);
        due("feed, a byte more", x.feed('&'), FULL);
        due("inn of 100 bytes", x.inn(), 0);
        due("of(0, 10)", x.of(0, 10), 16);
        due("count(5)", x.count(5), 0);
        due("feed behind it", x.feed(';'), 1);
    }

    private static void clauses() throws IOException {
        sentence("CLAUSES, 1 to 10, with ; between:");
        fault("", 0);
        innIs("rise 1");
        innIs("rise 1" + ";fall 1".repeat(9));
        fault("rise 1" + ";fall 1".repeat(10), 69);
        fault("rise 1" + ";fall 1".repeat(9) + ";", 69);
        fault(";rise 1", 0);
        fault("rise 1;", 7);
        fault("rise 1;;fall 1", 7);
        fault("rise 1 fall 1", 6);
        fault("rise 1,fall 1", 6);
        LeavesObject x = cups(0, 0);
        innOf(x, "will 1 c=0" + ";will 1 c=0".repeat(7) + ";rise 8;");
        due("a refused ;", x.count(1), 0);
        due("ten clauses", innOf(x, "will 1 c<9;fall 3;" + "rise 1;".repeat(6) + "balk 3 c<9;will 4 c<9"), 0);
        due("of(0, 10)", x.of(0, 10), 5 + 1 - 3 + 4);
    }

    private static void words() throws IOException {
        sentence("will n E; balk n E; rise n; fall n (one blank ahead of each part behind the word; n 1 or 2 digits).");
        innIs("will 0 c=0");
        innIs("balk 99 c=0");
        innIs("rise 00");
        innIs("fall 09");
        fault("will0 c=0", 4);
        fault("will  0 c=0", 5);
        fault("will 0c=0", 6);
        fault("will 0  c=0", 7);
        fault("will 0 c=0 ", 10);
        fault(" will 0 c=0", 0);
        fault("rise0", 4);
        fault("rise  0", 5);
        fault("rise 0 ", 6);
        fault("fall\t0", 4);
        fault("will c=0", 5);
        fault("will 100 c=0", 7);
        fault("balk -1 c=0", 5);
        fault("rise 100", 7);
        fault("fall +1", 5);
        fault("rise 1 c=0", 6);
        fault("will 1", 6);
        fault("balk 1 ", 7);
        fault("rise", 4);
        fault("rise ", 5);
        fault("rill 1", 2);
        fault("ball 1 c=1", 3);
        fault("bawl 1", 2);
        fault("RISE 1", 0);
    }

    private static void tests() throws IOException {
        sentence("F: !F, (E), or a TEST: a letter, < or = or >, a number (1 or 2 digits):");
        innIs("will 1 c<0");
        innIs("will 1 w=99");
        innIs("will 1 k>00");
        innIs("will 1 v=5&l<1|n>2");
        fault("will 1 c=", 9);
        fault("will 1 c=100", 11);
        fault("will 1 c=-1", 9);
        fault("will 1 c<=1", 9);
        fault("will 1 c!=1", 8);
        fault("will 1 c", 8);
        fault("will 1 =1", 7);
        fault("will 1 m=1", 7);
        fault("will 1 C=1", 7);
        fault("will 1 c =1", 8);
        fault("will 1 c= 1", 9);
        fault("will 1 1=c", 7);
        fault("will 1 ()", 8);
        fault("will 1 !", 8);
        fault("will 1 c=1c=1", 10);
        fault("will 1 c=1&", 11);
        fault("will 1 c=1|", 11);
        fault("will 1 c=1&&c=1", 11);
        fault("will 1 &c=1", 7);
        fault("will 1 |c=1", 7);
        fault("will 1 (c=1", 11);
        fault("will 1 c=1)", 10);
    }

    /** A letter there is a TEST that holds for 1, and one that doesn't for 0. */
    private static void holds(String e, boolean[] given, boolean want) {
        String test = e;
        for (int i = 0; i < given.length; i++) {
            test = test.replace((char) ('A' + i), given[i] ? 'T' : 'F');
        }
        LeavesObject x = with("will 7 " + test.replace("T", "c=0").replace("F", "c=1"));
        add(x, 0, 0);
        due("of(0, 10) by " + test, x.of(0, 10), want ? 12 : 5);
    }

    private static void eitherAndBoth() throws IOException {
        sentence("E: T or T|E. T: F or F&T.");
        for (int bits = 0; bits < 8; bits++) {
            boolean a = bits % 2 == 1, b = bits / 2 % 2 == 1, c = bits / 4 == 1;
            boolean[] given = {a, b, c};
            holds("A", given, a);
            holds("A|B|C", given, a || b || c);
            holds("A&B&C", given, a && b && c);
            holds("A|B&C", given, a || b && c);
            holds("A&B|C", given, a && b || c);
            holds("(A|B)&C", given, (a || b) && c);
            holds("A&(B|C)", given, a && (b || c));
            holds("!A&B|!C", given, !a && b || !c);
            holds("!(A|B)&!C", given, !(a || b) && !c);
            holds("!(A&B|C)", given, !(a && b || c));
            holds("!!A|!!!B&C", given, a || !b && c);
            holds("A&B|B&C|C&A", given, a && b || b && c || c && a);
        }
    }

    private static void letter(LeavesObject x, String test, boolean holds) {
        due("inn of " + test, innOf(x, "will 7 " + test), x.count(1) - 1);
        due("WILL of CUP 1 and SAYING 2 by " + test, x.of(1, 12), holds ? 12 : 5);
    }

    private static LeavesObject lettersTold() {
        LeavesObject x = cups(0, 0);
        x.cup(4, 6, at(0, 5, 11));
        x.pass(28);
        return x;
    }

    private static void letters() throws IOException {
        sentence("of a CUP and a SAYING c the number of the one, w of the other, k its KIND, v its v, l how many LEAVES it has, n NIGHT modulo 10.");
        int[] numbers = {1, 2, 4, 6, 3, 8};
        for (int i = 0; i < numbers.length; i++) {
            char letter = "cwkvln".charAt(i);
            LeavesObject x = lettersTold();
            letter(x, letter + "=" + numbers[i], true);
            letter(x, letter + "<" + numbers[i], false);
            letter(x, letter + ">" + numbers[i], false);
            letter(x, letter + "<" + (numbers[i] + 1), true);
            letter(x, letter + ">0" + (numbers[i] - 1), true);
            letter(x, letter + "=" + (numbers[i] + 10), false);
        }
    }

    private static void nightModuloTen() throws IOException {
        sentence("n NIGHT modulo 10.");
        LeavesObject x = with("will 7 n=0");
        add(x, 0, 0);
        due("of(0, 10), NIGHT 0", x.of(0, 10), 12);
        x.pass(9);
        due("of(0, 10), NIGHT 9", x.of(0, 10), 5);
        x.pass(1);
        due("of(0, 10), NIGHT 10", x.of(0, 10), 12);
        x.pass(1);
        due("of(0, 10), NIGHT 11", x.of(0, 10), 5);
        due("inn", innOf(x, "will 7 n>8"), 1);
        x.pass(8);
        due("of(0, 10), NIGHT 19", x.of(0, 10), 12);
    }

    private static void within() throws IOException {
        sentence("A ( or ! within 4 others is none.");
        innIs("will 1 !!!!c=1");
        fault("will 1 !!!!!c=1", 11);
        innIs("will 1 ((((c=1))))");
        fault("will 1 (((((c=1)))))", 11);
        innIs("will 1 (!(!c=1))");
        fault("will 1 (!(!(c=1)))", 11);
        fault("will 1 !(!(!c=1))", 11);
        fault("will 1 ((!(c=1&!(c=2))))", 15);
        innIs("will 1 ((((c=1))))&!!!!c=1|((((c=1))))");
        fault("will 1 ((((c=1))))&!!!!c=1|((((c=1&!c=1))))", 35);
        LeavesObject x = with("will 7 !(!(c=1&w=2))");
        add(x, 0, 0, 0, 0);
        due("of(1, 12)", x.of(1, 12), 12);
        due("of(1, 11)", x.of(1, 11), 5);
        due("of(0, 12)", x.of(0, 12), 5);
    }

    /** Of a text that goes from INN to INN with each part: each byte that ends it, and each wrong one. */
    private static void faultAtEachPlace() throws IOException {
        sentence("The FAULT: the place of the first byte with which none begins so (the end of THE TEXT, if it ends too early).");
        String[] parts = {"will 12 !(c<1|w=23)", "&k>4", "|v=5", "6", ";balk 3 l<6", ";rise 7", ";fall 8", "8"};
        String text = String.join("", parts);
        boolean[] isInn = new boolean[text.length() + 1];
        int end = 0;
        for (String part : parts) {
            end += part.length();
            isInn[end] = true;
        }
        for (int place = 0; place <= text.length(); place++) {
            String head = text.substring(0, place);
            if (isInn[place]) {
                innIs(head);
            } else {
                fault(head, place);
            }
            fault(head + "~", place);
            fault(head + "\0" + text.substring(place), place);
        }
        fault("will 11 " + "c=0|".repeat(23), 100);
        fault("will 11 " + "c=0|".repeat(22) + "c=0;", 100);
        fault("will 11 " + "c=0|".repeat(22) + "c=0)", 99);
    }

    private static void newestInnHolds() throws IOException {
        sentence("The newest INN holds (6 at most); without one there are no CLAUSES.");
        LeavesObject x = cups(0, 0);
        due("of(0, 10), no INN", x.of(0, 10), 5);
        due("told(1), no INN", x.told(1), 2);
        due("told(2), no INN", x.told(2), 1);
        for (int number = 0; number <= 5; number++) {
            due("inn", innOf(x, "will " + (10 + number) + " c=0;rise " + number), number);
            due("of(0, 10)", x.of(0, 10), 15 + number);
            due("told(1)", x.told(1), number);
        }
        due("a seventh inn", innOf(x, "rise 9"), FULL);
        due("told(1)", x.told(1), 5);
        due("of(0, 10)", x.of(0, 10), 20);
        due("count(1)", x.count(1), 6);
    }

    private static void will(String inn, int want) {
        LeavesObject x = with(inn);
        add(x, 0, 0);
        due("of(0, 10) by " + inn, x.of(0, 10), want);
    }

    private static void wills() throws IOException {
        sentence("WILL of a CUP and a SAYING: 5, and the n of all will whose E holds, less those of all balk, together (0 at least).");
        will("rise 9;fall 9", 5);
        will("will 9 c=1;balk 9 c=1", 5);
        will("balk 4 c=0", 1);
        will("balk 5 c=0", 0);
        will("balk 6 c=0", 0);
        will("balk 99 c=0", 0);
        will("balk 9 c=0;will 9 c=0", 5);
        will("balk 9 c=0;balk 9 c=0;will 13 c=0", 0);
        will("balk 9 c=0;balk 9 c=0;will 14 c=0", 1);
        will("will 0 c=0", 5);
        will("will 99 c=0" + ";will 99 c=0".repeat(7), 5 + 8 * 99);
    }

    private static void riseAndFall(String inn, int rise, int fall) {
        LeavesObject x = with(inn);
        due("told(1) by " + inn, x.told(1), rise);
        due("told(2) by " + inn, x.told(2), fall);
    }

    private static void riseAndFall() throws IOException {
        sentence("RISE (2 without), FALL (1 without): the last one's n.");
        riseAndFall("will 1 c=0", 2, 1);
        riseAndFall("rise 0", 0, 1);
        riseAndFall("fall 0", 2, 0);
        riseAndFall("rise 99;fall 98", 99, 98);
        riseAndFall("rise 7;fall 6;rise 0;fall 4;balk 1 c=0", 0, 4);
        riseAndFall("fall 3;rise 9;rise 4;fall 0", 4, 0);
    }

    // ---- 1: what sayings do

    private static void spread() throws IOException {
        sentence("0 SPREAD: each LEAF is in the CELL to its right, too, in its ROW (none beyond COLUMN 3).");
        LeavesObject x = cups(0, 0);
        for (int cell = 0; cell < 12; cell++) {
            does(x, at(cell), 0, column(cell) == 3 ? at(cell) : at(cell, cell + 1));
        }
        does(x, at(0, 7, 9, 10), 0, at(0, 1, 7, 9, 10, 11));
        does(x, 0, 0, 0);
        does(x, 4095, 0, 4095);
    }

    private static void thin() throws IOException {
        sentence("1 THIN: each LEAF none of the CELLS NEXT to which has one goes.");
        LeavesObject x = cups(0, 0);
        does(x, 0, 1, 0);
        does(x, 4095, 1, 4095);
        does(x, at(3, 4), 1, 0);
        does(x, at(0, 8), 1, 0);
        does(x, at(0, 5, 10), 1, 0);
        does(x, at(0, 2, 5, 7, 8, 10), 1, 0);
        does(x, at(0, 1, 3, 7, 8, 10), 1, at(0, 1, 3, 7));
        does(x, at(0, 1, 2), 1, at(0, 1, 2));
    }

    private static void tip() throws IOException {
        sentence("2 TIP: each is one COLUMN further (behind 3 comes 0).");
        LeavesObject x = cups(0, 0);
        does(x, at(3), 2, at(0));
        does(x, at(7, 11), 2, at(4, 8));
        does(x, at(2, 3, 4), 2, at(3, 0, 5));
        does(x, 4095, 2, 4095);
    }

    private static void swirl() throws IOException {
        sentence("3 SWIRL: each is one ROW further (behind 2 comes 0).");
        LeavesObject x = cups(0, 0);
        does(x, at(8), 3, at(0));
        does(x, at(11, 3), 3, at(3, 7));
        does(x, at(7, 8, 9), 3, at(11, 0, 1));
        does(x, 4095, 3, 4095);
    }

    private static void backSpread() throws IOException {
        sentence("BACK, they do: 0 each LEAF is in the CELL to its left, too (none beyond COLUMN 0);");
        LeavesObject x = cups(2, 0);
        for (int cell = 0; cell < 12; cell++) {
            does(x, at(cell), 0, column(cell) == 0 ? at(cell) : at(cell - 1, cell));
        }
        does(x, at(1, 4, 11), 0, at(0, 1, 4, 10, 11));
    }

    /** Of each CELL: each set of the CELLS NEXT to it. */
    private static void backThin() throws IOException {
        sentence("1 each CELL without a LEAF, two or more of the CELLS NEXT to which have one, has one, too;");
        for (int cell = 0; cell < 12; cell++) {
            int around = 0;
            for (int other = 0; other < 12; other++) {
                around |= areNext(cell, other) ? at(other) : 0;
            }
            LeavesObject x = cups(2, 0);
            for (int leaves = around; leaves > 0; leaves = (leaves - 1) & around) {
                x.set(0, 0, leaves);
                boolean isThere = (x.of(0, 21) & at(cell)) != 0;
                due("a LEAF in " + cell + " by " + leaves, isThere ? 1 : 0, Integer.bitCount(leaves) >= 2 ? 1 : 0);
                due("what was there", x.of(0, 21) & leaves, leaves);
            }
        }
        LeavesObject x = cups(2, 0);
        does(x, 0, 1, 0);
        does(x, at(3, 8), 1, at(3, 8));
        does(x, at(0, 2, 4), 1, at(0, 1, 2, 4));
    }

    private static void backTipAndSwirl() throws IOException {
        sentence("2 one COLUMN back; 3 one ROW back.");
        LeavesObject x = cups(2, 0);
        for (int cell = 0; cell < 12; cell++) {
            does(x, at(cell), 2, at(4 * row(cell) + (column(cell) + 3) % 4));
            does(x, at(cell), 3, at((cell + 8) % 12));
        }
    }

    private static void shy() throws IOException {
        sentence("SHY: as CUP, but nothing, if it has more than 6 LEAVES.");
        LeavesObject x = cups(1, 0);
        int six = at(0, 1, 2, 4, 5, 10);
        does(x, six, 0, at(0, 1, 2, 3, 4, 5, 6, 10, 11));
        does(x, six, 1, at(0, 1, 2, 4, 5));
        does(x, six, 2, at(1, 2, 3, 5, 6, 11));
        does(x, six, 3, at(4, 5, 6, 8, 9, 2));
        int seven = at(0, 1, 2, 4, 5, 10, 7);
        for (int saying = 0; saying < 4; saying++) {
            does(x, seven, saying, seven);
            does(x, 4095, saying, 4095);
        }
    }

    private static void plain() throws IOException {
        sentence("PLAIN: as CUP, twice, one behind the other.");
        LeavesObject x = cups(3, 0);
        does(x, at(1), 0, at(1, 2, 3));
        does(x, at(6), 0, at(6, 7));
        does(x, at(2, 11), 2, at(0, 9));
        does(x, at(7, 8), 3, at(3, 4));
        does(x, at(0, 2), 1, 0);
    }

    private static void blank() throws IOException {
        sentence("BLANK: as SHY, then ROW 2 has none.");
        LeavesObject x = cups(4, 0);
        int six = at(0, 1, 2, 4, 8, 9);
        does(x, six, 0, at(0, 1, 2, 3, 4, 5));
        does(x, six, 1, at(0, 1, 2, 4));
        does(x, six, 2, at(1, 2, 3, 5));
        does(x, six, 3, at(4, 5, 6, 0, 1));
        int seven = at(0, 1, 2, 4, 8, 9, 11);
        for (int saying = 0; saying < 4; saying++) {
            does(x, seven, saying, at(0, 1, 2, 4));
            does(x, 4095, saying, 255);
        }
        does(x, at(8, 9, 10, 11), 1, 0);
    }

    private static void wise() throws IOException {
        sentence("WISE: as STUBBORN, if NIGHT is odd, else as CUP.");
        LeavesObject x = cups(5, 0);
        for (int night = 0; night < 4; night++) {
            does(x, at(5), 0, night % 2 == 0 ? at(5, 6) : at(4, 5));
            does(x, at(5, 10), 1, night % 2 == 0 ? 0 : at(5, 6, 9, 10));
            does(x, at(5), 2, night % 2 == 0 ? at(6) : at(4));
            does(x, at(5), 3, night % 2 == 0 ? at(9) : at(1));
            x.pass(1);
        }
    }

    private static void toldOne() throws IOException {
        sentence("TOLD: as PLAIN, then all CELLS of ROW 0 in its LINE (four numbers 0 .. 9, 0 at first; bits: bit 0 CELL 0) at NIGHT modulo 4 have one, too.");
        LeavesObject x = cups(6, 0, 6, 0);
        int[] lines = {9, 1, 4, 8};
        for (int part = 0; part < 4; part++) {
            due("line(0, " + part + ", ..), at first", x.line(0, part, lines[part]), 0);
        }
        for (int night = 0; night < 9; night++) {
            int line = lines[night % 4];
            does(x, 0, 0, line);
            does(x, at(4), 2, at(6) | line);
            does(x, at(0, 11), 1, line);
            does(x, at(5), 3, at(1) | line);
            due("the other's LINE", x.of(1, 20), 0);
            x.pass(1);
        }
    }

    // ---- 1: how moods rise and fall

    private static void refuses() throws IOException {
        sentence("A SAYING is SAID to a CUP: if its WILL is less than its MOOD, it REFUSES:");
        for (int mood = 0; mood <= 9; mood++) {
            LeavesObject x = cups(0, at(0));
            x.set(0, 1, mood);
            due("say with WILL 5, MOOD " + mood, x.say(0, 2), mood <= 5 ? 1 : 0);
            due("of(0, 2)", x.of(0, 2), mood <= 5 ? at(1) : at(0));
            due("of(0, 4)", x.of(0, 4), mood <= 5 ? 0 : 1);
        }
        LeavesObject x = with("balk 9 c=0");
        add(x, 0, at(0));
        due("say with WILL 0, MOOD 0", x.say(0, 2), 1);
        x.set(0, 1, 1);
        due("say with WILL 0, MOOD 1", x.say(0, 2), 0);
    }

    private static void moodRises() throws IOException {
        sentence("REFUSED is 1 more, MOOD RISE more (9 at most), LEAVES stay.");
        int[][] rows = {{2, 7, 9}, {2, 6, 8}, {2, 8, 9}, {2, 9, 9}, {1, 8, 9}, {0, 3, 3}, {99, 1, 9}, {8, 1, 9}, {7, 1, 8}};
        for (int[] row : rows) {
            LeavesObject x = with("balk 5 c=0;rise " + row[0]);
            add(x, 0, at(3));
            x.set(0, 1, row[1]);
            due("say(0, 0)", x.say(0, 0), 0);
            due("MOOD " + row[1] + " with RISE " + row[0], x.of(0, 3), row[2]);
            due("REFUSED", x.of(0, 4), 1);
            due("LEAVES", x.of(0, 2), at(3));
            due("say(0, 2)", x.say(0, 2), 0);
            due("REFUSED", x.of(0, 4), 2);
        }
    }

    private static void moodFalls() throws IOException {
        sentence("Else its LEAVES are what that DOES with them, MOOD FALL less (0 at least).");
        int[][] rows = {{1, 1, 0}, {1, 0, 0}, {1, 5, 4}, {0, 5, 5}, {5, 5, 0}, {6, 5, 0}, {99, 3, 0}, {4, 5, 1}};
        for (int[] row : rows) {
            LeavesObject x = with("fall " + row[0]);
            add(x, 0, at(3));
            x.set(0, 1, row[1]);
            due("say(0, 2)", x.say(0, 2), 1);
            due("MOOD " + row[1] + " with FALL " + row[0], x.of(0, 3), row[2]);
            due("REFUSED", x.of(0, 4), 0);
            due("LEAVES", x.of(0, 2), at(0));
        }
    }

    private static void nightGoes() throws IOException {
        sentence("A NIGHT goes: MOOD of all is 1 less (0 at least), NIGHT 1 more.");
        LeavesObject x = cups(0, 0, 1, 0, 2, 0, 3, 0, 4, 0);
        int[] moods = {9, 2, 1, 0, 5};
        for (int cup = 0; cup < 5; cup++) {
            x.set(cup, 1, moods[cup]);
        }
        for (int night = 1; night <= 6; night++) {
            due("pass(1)", x.pass(1), night);
            for (int cup = 0; cup < 5; cup++) {
                due("MOOD of " + cup + " at NIGHT " + night, x.of(cup, 3), Math.max(moods[cup] - night, 0));
                due("REFUSED of " + cup, x.of(cup, 4), 0);
            }
        }
    }

    // ---- 2: what is asked of one

    private static void askedBeyondRefused() throws IOException, ReflectiveOperationException {
        sentence("All that follows is asked, goes on from how all is (REFUSED beyond 9999, too), and changes nothing.");
        LeavesObject x = cups(0, at(0));
        x.set(0, 1, 9);
        putRefused(x, 0, 9999);
        x.evening(0, 2);
        x.evening(0, 2);
        x.see(2, at(0));
        due("after(0, 2, 2)", x.after(0, 2, 2), 1);
        due("after(0, 2, 0)", x.after(0, 2, 0), at(0));
        due("firstNo(0, 2)", x.firstNo(0, 2), 1);
        due("ends(1)", x.ends(1), 2);
        due("comes(0, 2, -1)", x.comes(0, at(1), -1), NOT_SO);
        due("near(0, 2, -1)", x.near(0, at(1), -1), 2);
        due("moods(0, 1)", x.moods(0, 1), 6);
        due("of(0, 4)", x.of(0, 4), 9999);
    }

    private static void after() throws IOException {
        sentence("AFTER a SAYING to one: its LEAVES; MOOD; whether it REFUSES.");
        LeavesObject x = cups(0, at(3));
        int[][] rows = {{0, at(0), 0, 0}, {5, at(0), 4, 0}, {6, at(3), 8, 1}, {8, at(3), 9, 1}, {9, at(3), 9, 1}};
        for (int[] row : rows) {
            x.set(0, 1, row[0]);
            for (int what = 0; what <= 2; what++) {
                due("after(0, 2, " + what + ") with MOOD " + row[0], x.after(0, 2, what), row[1 + what]);
            }
        }
        due("of(0, 3)", x.of(0, 3), 9);
        due("of(0, 4)", x.of(0, 4), 0);
    }

    private static void comes(LeavesObject x, int shape, int many, int... sayings) {
        due("comes(0, " + shape + ", -1)", x.comes(0, shape, -1), many);
        for (int k = 0; k < 4; k++) {
            int want = k < sayings.length ? sayings[k] : NOT_SO;
            due("comes(0, " + shape + ", " + k + ")", x.comes(0, shape, k), want);
        }
    }

    private static void comes() throws IOException {
        sentence("COMES of one and a SHAPE (bits): the fewest SAYINGS (0 .. 4), one behind the other, after which its LEAVES are just that (-5: by no so many); the k-th of these (of several rows with so many the first).");
        LeavesObject x = cups(0, at(2));
        comes(x, at(2), 0);
        comes(x, at(3), 1, 2);
        comes(x, at(7), 2, 2, 3);
        comes(x, at(1), 3, 2, 2, 2);
        comes(x, at(5), 4, 2, 2, 2, 3);
        comes(x, at(9), NOT_SO);
        comes(x, 0, 1, 1);
        comes(x, at(2, 3), 1, 0);
        x.set(0, 0, 0);
        comes(x, 0, 0);
        comes(x, 1, NOT_SO);
        x.set(0, 0, 4095);
        comes(x, 4095, 0);
        x.set(0, 0, at(2));
        x.set(0, 1, 6);
        comes(x, at(2), 0);
        comes(x, at(3), NOT_SO);
    }

    private static void near(LeavesObject x, int shape, int many, int... sayings) {
        due("near(0, " + shape + ", -1)", x.near(0, shape, -1), many);
        for (int k = 0; k < 3; k++) {
            due("near(0, " + shape + ", " + k + ")", x.near(0, shape, k), sayings[k]);
        }
    }

    private static void near() throws IOException {
        sentence("NEAR of one and a SHAPE: of all rows of three SAYINGS that after which the fewest CELLS are otherwise than SHAPE (of several the first): how many; the k-th.");
        LeavesObject x = cups(0, at(2));
        near(x, at(2), 0, 3, 3, 3);
        near(x, at(3), 0, 2, 0, 0);
        near(x, at(1), 0, 2, 2, 2);
        near(x, 0, 0, 0, 2, 1);
        x.set(0, 0, 0);
        near(x, 4095, 12, 0, 0, 0);
        x.set(0, 0, 4095);
        near(x, 0, 12, 0, 0, 0);
        near(x, 4095, 0, 0, 0, 0);
        x.set(0, 0, at(0, 2));
        x.set(0, 1, 9);
        near(x, at(0), 1, 0, 0, 0);
    }

    private static void fullest() throws IOException {
        sentence("FULLEST of one: how many LEAVES it has at most after four SAYINGS.");
        LeavesObject x = cups(0, 0);
        due("fullest(0), no LEAVES", x.fullest(0), 0);
        x.set(0, 0, 4095);
        due("fullest(0), all LEAVES", x.fullest(0), 12);
        x.set(0, 0, at(3));
        due("fullest(0), COLUMN 3", x.fullest(0), 4);
        x.set(0, 1, 6);
        due("fullest(0), unwilling", x.fullest(0), 1);
        LeavesObject y = cups(4, at(8, 9, 10, 11));
        due("fullest of a BLANK", y.fullest(0), 4);
        y.set(0, 0, 4095);
        due("fullest of a full BLANK", y.fullest(0), 8);
    }

    private static void firstNo(String inn, int mood, int saying, int want) {
        LeavesObject x = with(inn);
        add(x, 0, at(0));
        x.set(0, 1, mood);
        due("firstNo with MOOD " + mood + " by " + inn, x.firstNo(0, saying), want);
        due("of(0, 2)", x.of(0, 2), at(0));
        due("of(0, 3)", x.of(0, 3), mood);
        due("of(0, 4)", x.of(0, 4), 0);
    }

    /** Moods never rise ahead of a first no, and new numbers of LEAVES soon end: the eighth time is the last to be had. */
    private static void firstNo() throws IOException {
        sentence("FIRST NO of one and a SAYING: the how manieth time (1 .. 60) it would REFUSE first, were that SAID again and again (-5: not by then).");
        firstNo("fall 0", 6, 0, 1);
        firstNo("fall 0", 5, 0, NOT_SO);
        firstNo("balk 5 l>1;fall 0", 1, 0, 2);
        firstNo("balk 5 l>2;fall 0", 1, 0, 3);
        firstNo("balk 5 l>3;fall 0", 1, 0, 4);
        firstNo("balk 5 l>4;fall 0", 1, 0, NOT_SO);
        firstNo("balk 5 l>3;fall 1", 3, 0, NOT_SO);
        firstNo("balk 5 l>3;fall 1", 4, 0, 4);
        firstNo("balk 5 l>3;fall 1", 0, 0, NOT_SO);
        firstNo("balk 5 l=0;fall 0", 5, 1, 2);
        LeavesObject x = with("balk 5 l>11;fall 0");
        add(x, 2, at(0, 3, 8, 9));
        due("firstNo(0, 1), MOOD 0", x.firstNo(0, 1), NOT_SO);
        x.set(0, 1, 1);
        due("firstNo(0, 1), all CELLS fill", x.firstNo(0, 1), 8);
    }

    // ---- 2: what is asked of all

    private static void joinedAndTwice() throws IOException {
        sentence("JOINED: where any CUP has a LEAF. TWICE: where two or more have.");
        LeavesObject x = new LeavesObject();
        due("told(3), no CUPS", x.told(3), 0);
        due("told(4), no CUPS", x.told(4), 0);
        int[][] rows = {{at(0, 11), at(0, 11), 0}, {at(1), at(0, 1, 11), 0}, {at(1, 11), at(0, 1, 11), at(1, 11)},
            {at(1), at(0, 1, 11), at(1, 11)}, {at(1, 2, 0), at(0, 1, 2, 11), at(0, 1, 11)}};
        for (int[] row : rows) {
            add(x, 0, row[0]);
            due("told(3)", x.told(3), row[1]);
            due("told(4)", x.told(4), row[2]);
        }
    }

    private static void show() throws IOException {
        sentence("SHOW of a SHAPE: of all sets of CUPS by whose LEAVES, together, all of it is there, that with the fewest CUPS (of several the least as bits; -5: none).");
        LeavesObject x = new LeavesObject();
        due("show(0), no CUPS", x.show(0), 0);
        due("show(1), no CUPS", x.show(1), NOT_SO);
        due("show(4095), no CUPS", x.show(4095), NOT_SO);
        add(x, 0, at(0, 1), 0, at(1, 2), 0, at(2, 3), 0, at(0, 1, 2), 0, at(11));
        due("show(0)", x.show(0), 0);
        due("the least of three", x.show(at(1)), 0b00001);
        due("one rather than two", x.show(at(0, 2)), 0b01000);
        due("the least of two pairs", x.show(at(0, 1, 3)), 0b00101);
        due("a later pair with more bits told", x.show(at(0, 3, 2)), 0b00101);
        due("three", x.show(at(0, 3, 11)), 0b10101);
        due("none", x.show(at(4)), NOT_SO);
        due("none but for a part", x.show(at(0, 4)), NOT_SO);
        LeavesObject y = cups(0, at(0), 0, at(1), 0, at(2), 0, at(3), 0, at(4));
        due("all five", y.show(at(0, 1, 2, 3, 4)), 0b11111);
        due("the last", y.show(at(4)), 0b10000);
    }

    private static void alike() throws IOException {
        sentence("ALIKE: the two CUPS in which the fewest CELLS are unlike (10 times the lesser and the greater number; of several the first; -5: there are not two).");
        LeavesObject x = new LeavesObject();
        due("told(6), no CUPS", x.told(6), NOT_SO);
        add(x, 0, 0);
        due("told(6), one", x.told(6), NOT_SO);
        add(x, 0, 4095);
        due("told(6), all CELLS unlike", x.told(6), 1);
        add(x, 0, 0);
        due("told(6), same", x.told(6), 2);
        add(x, 0, 4095, 0, 0);
        due("told(6), several", x.told(6), 2);
        x.set(0, 0, at(5));
        due("told(6), several behind it", x.told(6), 13);
        x.set(1, 0, at(6));
        due("told(6), the next of several", x.told(6), 24);
        x.set(4, 0, 4095);
        due("told(6), the last", x.told(6), 34);
    }

    private static void mirrored() throws IOException {
        sentence("MIRRORED: those CUPS, as bits, whose LEAVES lie as they would, were COLUMN 0 and 3, 1 and 2 to change places.");
        LeavesObject x = new LeavesObject();
        due("told(5), no CUPS", x.told(5), 0);
        add(x, 0, 0, 0, 4095, 0, at(0, 3, 5, 6), 0, at(0, 2), 0, at(4, 7, 9, 10));
        due("told(5)", x.told(5), 0b10111);
        for (int cell = 0; cell < 12; cell++) {
            x.set(3, 0, at(cell));
            due("told(5), one LEAF", x.told(5), 0b10111);
            x.set(3, 0, at(cell, 4 * row(cell) + 3 - column(cell)));
            due("told(5), its other one, too", x.told(5), 0b11111);
        }
        x.set(3, 0, at(0, 7));
        due("told(5), in another ROW", x.told(5), 0b10111);
    }

    private static void next() throws IOException {
        sentence("NEXT of a SHAPE: the CUP and the SAYING to it after which JOINED is otherwise than SHAPE in the fewest CELLS (10 times the one, and the other; of several the first; -5: there are no CUPS).");
        LeavesObject x = new LeavesObject();
        due("next(0), no CUPS", x.next(0), NOT_SO);
        due("next(4095), no CUPS", x.next(4095), NOT_SO);
        add(x, 0, 0);
        due("next(4095), all CELLS otherwise", x.next(4095), 0);
        due("next(0), of several", x.next(0), 0);
        add(x, 0, at(3), 0, 0, 0, 0, 0, at(8));
        due("next by the last CUP", x.next(at(3, 9)), 42);
        due("next by the last SAYING", x.next(at(3, 0)), 43);
        due("next by another", x.next(at(0, 8)), 12);
        due("next, of several", x.next(at(3, 8)), 0);
        x.set(4, 1, 6);
        due("next, the last refuses", x.next(at(3, 9)), 0);
    }

    // ---- 2: seen, odds, evenings, books

    private static void fit(LeavesObject x, int cup, int manyMoods, int leastMood, int manyCan, int leastCan) {
        due("moods(" + cup + ", 0)", x.moods(cup, 0), manyMoods);
        due("moods(" + cup + ", 1)", x.moods(cup, 1), leastMood);
        due("can(" + cup + ", 0)", x.can(cup, 0), manyCan);
        due("can(" + cup + ", 1)", x.can(cup, 1), leastCan);
    }

    private static void seen() throws IOException {
        sentence("SEEN told by hand: a SAYING, LEAVES (bits; 5 at most).");
        LeavesObject x = cups(0, at(0));
        int[] leaves = {at(0, 1), 0, at(1), at(4), at(5)};
        fit(x, 0, 10, 0, 10, 0);
        for (int i = 0; i < 4; i++) {
            due("see", x.see(i, leaves[i]), i + 1);
        }
        fit(x, 0, 6, 0, 10, 0);
        due("see, the fifth", x.see(3, leaves[4]), 5);
        fit(x, 0, 0, NOT_SO, 0, NOT_SO);
        due("see, a sixth", x.see(0, 0), FULL);
        due("see(-1, 0)", x.see(-1, 0), 0);
        fit(x, 0, 10, 0, 10, 0);
    }

    private static void moodsOfOne() throws IOException {
        sentence("MOODS of one: how many numbers (0 .. 9) there are by which, were that its MOOD now, its LEAVES after each of these SAYINGS, SAID to it alone now, are just so; the least (-5: none).");
        LeavesObject x = with("balk 5 w=1;will 4 w=2;will 3 w=3;fall 0");
        add(x, 0, at(0), 0, at(0, 1));
        x.set(0, 1, 7);
        x.see(3, at(0));
        fit(x, 0, 1, 9, 0, NOT_SO);
        x.see(-1, 0);
        x.see(1, 0);
        fit(x, 0, 1, 0, 0, NOT_SO);
        x.see(0, at(0, 1));
        x.see(2, at(1));
        fit(x, 0, 1, 0, 0, NOT_SO);
        x.see(-1, 0);
        x.see(0, at(0));
        x.see(3, at(4));
        fit(x, 0, 3, 6, 10, 0);
        x.see(2, at(0));
        fit(x, 0, 0, NOT_SO, 0, NOT_SO);
        x.see(-1, 0);
        x.see(1, at(0, 1));
        fit(x, 1, 10, 0, 10, 0);
        due("of(0, 3)", x.of(0, 3), 7);
    }

    private static void canOfOne() throws IOException {
        sentence("CAN of one: how many numbers v (0 .. 9) there are by which, were that its v now, likewise; the least (-5: none).");
        LeavesObject x = with("balk 5 v<9&w=0;balk 5 v>0&w=1;balk 5 v=9&w=2");
        x.cup(0, 4, at(0));
        x.set(0, 1, 1);
        x.see(0, at(0, 1));
        fit(x, 0, 1, 0, 1, 9);
        x.see(-1, 0);
        x.see(1, 0);
        fit(x, 0, 1, 0, 1, 0);
        x.see(2, at(1));
        fit(x, 0, 1, 0, 1, 0);
        x.see(0, at(0, 1));
        fit(x, 0, 1, 0, 0, NOT_SO);
        x.see(-1, 0);
        x.see(2, at(1));
        fit(x, 0, 10 - 4, 0, 9, 0);
        due("of(0, 1)", x.of(0, 1), 4);
    }

    private static void fraction(LeavesObject x, int cup, int q, long above, long below) {
        due("odds(" + cup + ", " + q + ", 0)", x.odds(cup, q, 0), above);
        due("odds(" + cup + ", " + q + ", 1)", x.odds(cup, q, 1), below);
    }

    private static void odds() throws IOException {
        sentence("ODDS of one and q (0 .. 12): if any SAYING is SAID to it, each alike likely: how likely it has q LEAVES or more then: a fraction in lowest terms.");
        LeavesObject x = cups(0, 0, 0, 4095, 0, at(0), 4, at(0, 1, 8, 9));
        fraction(x, 0, 0, 1, 1);
        fraction(x, 0, 1, 0, 1);
        fraction(x, 0, 12, 0, 1);
        fraction(x, 1, 12, 1, 1);
        fraction(x, 1, 0, 1, 1);
        fraction(x, 2, 1, 3, 4);
        fraction(x, 2, 2, 1, 4);
        fraction(x, 3, 2, 1, 1);
        fraction(x, 3, 3, 1, 2);
        fraction(x, 3, 4, 1, 4);
    }

    private static void mean(LeavesObject x, long above, long below) {
        due("mean(0)", x.mean(0), above);
        due("mean(1)", x.mean(1), below);
    }

    private static void mean() throws IOException {
        sentence("MEAN: how many LEAVES all have, together, by how many CUPS there are: a fraction in lowest terms (NO: there are none).");
        LeavesObject x = new LeavesObject();
        mean(x, NO, NO);
        add(x, 0, 0);
        mean(x, 0, 1);
        x.set(0, 0, 4095);
        mean(x, 12, 1);
        add(x, 0, 0, 0, 0, 0, 0);
        mean(x, 3, 1);
        x.set(1, 0, 1);
        mean(x, 13, 4);
        x.set(2, 0, 1);
        mean(x, 7, 2);
        add(x, 0, at(1));
        mean(x, 3, 1);
        x.set(0, 0, 0);
        mean(x, 3, 5);
        x.set(1, 0, 0);
        x.set(2, 0, 0);
        x.set(4, 0, 0);
        mean(x, 0, 1);
        for (int cup = 0; cup < 5; cup++) {
            x.set(cup, 0, 4095);
        }
        mean(x, 12, 1);
    }

    private static void ends() throws IOException {
        sentence("AN EVENING told by hand: what goes: a SAYING to a CUP, or (CUP 5) a NIGHT (10 rows at most): ENDS: JOINED; how many REFUSED more, together.");
        LeavesObject x = cups(5, at(5), 0, at(0));
        due("ends(0), no rows", x.ends(0), at(0, 5));
        due("ends(1), no rows", x.ends(1), 0);
        for (int i = 1; i <= 9; i++) {
            due("evening(5, 77)", x.evening(5, 77), i);
        }
        due("ends(0), nine NIGHTS", x.ends(0), at(0, 5));
        due("evening(0, 0), the tenth", x.evening(0, 0), 10);
        due("ends(0), the tenth", x.ends(0), at(0, 4, 5));
        due("evening, an eleventh", x.evening(0, 2), FULL);
        due("ends(0)", x.ends(0), at(0, 4, 5));
        x.evening(-1, 0);
        due("ends(0), none again", x.ends(0), at(0, 5));
        x.set(0, 1, 9);
        x.set(1, 1, 9);
        for (int i = 0; i < 10; i++) {
            x.evening(i % 2, 2);
        }
        due("ends(1), all ten", x.ends(1), 10);
        due("ends(0), all ten", x.ends(0), at(0, 5));
        due("of(0, 4)", x.of(0, 4), 0);
        due("told(0)", x.told(0), 0);
    }

    private static void eveningOfTheLastNight() throws IOException {
        sentence("All that follows is asked, goes on from how all is");
        LeavesObject x = with("will 9 n=0");
        add(x, 5, at(5));
        for (int i = 0; i < 166; i++) {
            x.pass(60);
        }
        due("pass(39)", x.pass(39), 9999);
        x.set(0, 1, 9);
        x.evening(0, 0);
        due("ends(0), NIGHT 9999", x.ends(0), at(5));
        due("ends(1), NIGHT 9999", x.ends(1), 1);
        x.evening(-1, 0);
        x.evening(5, 0);
        x.evening(0, 0);
        due("ends(0), a NIGHT more", x.ends(0), at(5, 6));
        due("ends(1), a NIGHT more", x.ends(1), 0);
        x.evening(5, 0);
        x.evening(0, 0);
        due("ends(0), two more", x.ends(0), at(5, 6));
        due("ends(1), two more", x.ends(1), 1);
        due("told(0)", x.told(0), 9999);
        due("pass(1)", x.pass(1), STATE);
    }

    private static void looked() throws IOException {
        sentence("A BOOK told by hand: CUPS, LEAVES (8 at most): LOOKED at: the number of the first of these rows by which it is otherwise now (-5: none).");
        LeavesObject x = cups(0, at(2), 0, 4095);
        due("looked(), no rows", x.looked(), NOT_SO);
        for (int i = 1; i <= 7; i++) {
            due("book", i % 2 == 0 ? x.book(0, at(2)) : x.book(1, 4095), i);
        }
        due("looked()", x.looked(), NOT_SO);
        due("book, the eighth", x.book(0, at(3)), 8);
        due("looked(), the eighth", x.looked(), 7);
        due("book, a ninth", x.book(0, at(2)), FULL);
        x.set(0, 0, at(3));
        due("looked(), the second", x.looked(), 1);
        x.set(1, 0, 4094);
        due("looked(), the first", x.looked(), 0);
        x.book(-1, 0);
        due("looked(), none again", x.looked(), NOT_SO);
    }

    // ---- 2: acts

    private static void actsWrap() throws IOException, ReflectiveOperationException {
        sentence("ACTS of a CUP with x (wrapping): 0 lies, 1 says, 2 tells; i its number.");
        int[][] kindsAndV = {{0, 1}, {4, 0}, {2, 0}, {5, 9}, {6, 9}};
        LeavesObject x = new LeavesObject();
        for (int[] one : kindsAndV) {
            x.cup(one[0], one[1], 0);
        }
        answers(x, MAX, "act(0, 0, 2147483647)", "act(0, 1, -2147483648)", "act(1, 0, -2147483648)");
        answers(x, -2, "act(0, 2, -2147483648)");
        answers(x, MIN, "act(0, 2, 1073741825)", "act(1, 0, 2147483647)");
        answers(x, 3 * (1 << 30) + 2, "act(2, 0, 1073741824)");
        answers(x, MAX, "act(2, 0, 2147483647)");
        answers(x, -2147483647 * 3 + 3 - 9, "act(3, 1, -2147483647)");
        answers(x, (3 * MAX + 3 - 9) * 2, "act(3, 2, -2147483646)");
        answers(x, MIN + 3 ^ 9, "act(4, 0, 2147483647)");
    }

    private static void bodiesWrap() throws IOException {
        sentence("BLANK: 50 lies: -super.lies(x). 51 says: super.says(x + 1).");
        LeavesObject x = new LeavesObject();
        x.cup(4, 0, 0);
        due("act(0, 0, MIN)", x.act(0, 0, MIN), MIN);
        due("act(0, 1, MAX), by MIN", x.act(0, 1, MAX), MIN ^ 6);
    }

    private static void plainTells() throws IOException {
        sentence("PLAIN: 40 tells: super.tells(x) + says(1).");
        LeavesObject x = cups(0, 0, 0, 0, 3, 0);
        due("act(2, 2, ..), a sum that wraps", x.act(2, 2, (1 << 30) - 3), MIN + 1);
    }

    private static void trace() throws IOException {
        sentence("THE TRACE: the numbers of the bodies that ran in the latest act(), as they began; the first 20 are kept.");
        LeavesObject x = cups(6, 0, 0, 0);
        due("trace(0), no act", x.trace(0), NONE);
        x.act(0, 2, 5);
        int[] most = {40, 12, 70, 11, 71, 10, 10, 70, 11, 71, 10, 10};
        due("count(6)", x.count(6), most.length);
        for (int i = 0; i < most.length; i++) {
            due("trace(" + i + ")", x.trace(i), most[i]);
        }
        for (int i = most.length; i <= 21; i++) {
            due("trace(" + i + ")", x.trace(i), NONE);
        }
        x.act(1, 0, 5);
        due("trace(0), a later act", x.trace(0), 10);
        due("trace(1), a later act", x.trace(1), NONE);
        due("count(6), a later act", x.count(6), 1);
    }

    private static void traceIsFull() throws IOException, ReflectiveOperationException {
        sentence("the first 20 are kept.");
        LeavesObject x = cups(0, 0);
        for (int many : new int[] {19, 20, 21, 90}) {
            due("act(0, 3, 0), no TRACE", x.act(0, 3, 0), 0);
            beginBodies(x, many);
            due("count(6), all of them", x.count(6), many);
            due("trace(0)", x.trace(0), 0);
            due("trace(18)", x.trace(18), 18);
            due("trace(19)", x.trace(19), many > 19 ? 19 : NONE);
            due("trace(20)", x.trace(20), NONE);
            due("trace(89)", x.trace(89), NONE);
        }
        due("act(0, 0, 5)", x.act(0, 0, 5), 5);
        due("count(6)", x.count(6), 1);
        due("trace(1)", x.trace(1), NONE);
    }

    // ---- 2: the image

    private static void imageOfAll() throws IOException {
        sentence("THE IMAGE: CUPS with all that is theirs, NIGHT, SEEN, the EVENING, the BOOK, which INN holds.");
        LeavesObject x = with("rise 7;fall 0");
        for (int cup = 0; cup < 5; cup++) {
            x.cup(6, 9 - cup, at(cup));
            x.set(cup, 1, 5 + cup);
            x.line(cup, 3, 9 - cup);
        }
        x.say(4, 2);
        x.pass(3);
        for (int i = 0; i < 5; i++) {
            x.see(2, at(2) | 9);
        }
        for (int i = 0; i < 10; i++) {
            x.evening(i == 9 ? 0 : 5, 2);
        }
        for (int i = 0; i < 8; i++) {
            x.book(4, i == 7 ? 0 : at(4));
        }
        due("image()", x.image(), 5);
        x.see(-1, 0);
        x.evening(-1, 0);
        x.book(-1, 0);
        innOf(x, "rise 8;fall 8");
        for (int cup = 0; cup < 5; cup++) {
            x.set(cup, 0, 4095);
            x.set(cup, 1, 9);
            x.say(cup, 1);
            x.line(cup, 3, 0);
        }
        x.pass(60);
        due("undo()", x.undo(), 5);
        for (int cup = 0; cup < 5; cup++) {
            due("v of " + cup, x.of(cup, 1), 9 - cup);
            due("LEAVES of " + cup, x.of(cup, 2), at(cup));
            due("MOOD of " + cup, x.of(cup, 3), cup == 4 ? 6 : 2 + cup);
            due("REFUSED of " + cup, x.of(cup, 4), cup == 4 ? 1 : 0);
            due("LINE of " + cup, x.line(cup, 3, 1), 9 - cup);
            x.line(cup, 3, 9 - cup);
        }
        due("told(0)", x.told(0), 3);
        due("told(1)", x.told(1), 7);
        due("told(2)", x.told(2), 0);
        due("count(1)", x.count(1), 2);
        due("count(2)", x.count(2), 5);
        due("count(3)", x.count(3), 10);
        due("count(4)", x.count(4), 8);
        due("looked()", x.looked(), 7);
        due("ends(0)", x.ends(0), at(1, 2, 3, 4));
        due("moods(0, 0)", x.moods(0, 0), 6);
    }

    private static void rowsTold(LeavesObject x, int times, int cell) {
        for (int i = 0; i < times; i++) {
            x.see(2, at(cell));
            x.evening(i == 0 ? 0 : 5, 2);
            x.book(0, at(cell));
        }
    }

    /** Fewer rows than there are now, as many of others, and more. */
    private static void imageOfRows() throws IOException {
        sentence("All is as THE IMAGE: how many CUPS.");
        LeavesObject x = cups(0, at(0));
        rowsTold(x, 2, 1);
        x.image();
        for (int times = 0; times <= 3; times++) {
            if (times > 0) {
                x.see(-1, 0);
                x.evening(-1, 0);
                x.book(-1, 0);
            }
            rowsTold(x, times, 0);
            due("undo()", x.undo(), 1);
            due("count(2)", x.count(2), 2);
            due("count(3)", x.count(3), 2);
            due("count(4)", x.count(4), 2);
            due("moods(0, 0)", x.moods(0, 0), 6);
            due("ends(0)", x.ends(0), at(1));
            due("looked()", x.looked(), 0);
            x.set(0, 0, at(1));
            due("looked()", x.looked(), NOT_SO);
            x.set(0, 0, at(0));
        }
        rowsTold(x, 3, 0);
        due("undo(), there were more", x.undo(), 1);
        due("count(2)", x.count(2), 2);
        due("count(3)", x.count(3), 2);
        due("count(4)", x.count(4), 2);
    }

    /** An IMAGE without CUPS, and a newer IMAGE. */
    private static void images() throws IOException {
        sentence("THE IMAGE is taken: how many CUPS there are.");
        LeavesObject x = new LeavesObject();
        due("image(), no CUPS", x.image(), 0);
        add(x, 0, at(0));
        due("undo(), no CUPS", x.undo(), 0);
        due("of(0, 0)", x.of(0, 0), NONE);
        add(x, 0, at(0), 0, at(1));
        due("image(), two", x.image(), 2);
        x.say(0, 2);
        due("image(), newer", x.image(), 2);
        add(x, 0, at(2), 0, at(2), 0, at(2));
        due("undo()", x.undo(), 2);
        due("of(0, 2)", x.of(0, 2), at(1));
        due("of(2, 2)", x.of(2, 2), NONE);
        add(x, 0, at(5), 0, at(6), 0, at(7));
        due("image(), five", x.image(), 5);
        due("of(4, 2)", x.of(4, 2), at(7));
    }

    // ---- 3: tapes, judging

    private static void tapesAtFirst() throws IOException {
        sentence("TAPES 0 .. 5 hold nothing (at first), or a row of 0 bytes, 1 shorts, 2 ints, 3 longs, 4 booleans (items 0, 1).");
        LeavesObject x = new LeavesObject();
        for (int tape = 0; tape <= 5; tape++) {
            due("item of " + tape, x.item(tape, 0, 1), NOTHING);
            due("read of " + tape, x.read(tape, 0), NO);
        }
        for (int sort = 0; sort <= 4; sort++) {
            due("tape(" + sort + ", ..)", x.tape(sort, sort, 2), 1);
            due("item", x.item(sort, 1, 2), 1);
            due("read", x.read(sort, 1), sort == 4 ? 1 : 2);
            due("read", x.read(sort, 0), 0);
        }
        due("tape(5, 4, 60)", x.tape(5, 4, 60), 1);
        due("item(5, 59, NO)", x.item(5, 59, NO), 1);
        due("read(5, 59)", x.read(5, 59), 1);
        due("tape 6", x.tape(6, 0, 0), NONE);
    }

    private static LeavesObject judged(int size) {
        LeavesObject x = cups(0, at(0), 0, 4095, 0, at(3));
        x.tape(2, 1, size);
        for (int i = 0; i < 3; i++) {
            x.item(2, size - 3 + i, x.of(i, 2));
        }
        return x;
    }

    private static void judged() throws IOException {
        sentence("LEAVES told by a row of shorts, from a place on, CUP by CUP, are JUDGED: the first that is otherwise; -5: none, or there is none to look at;");
        LeavesObject none = new LeavesObject();
        none.tape(2, 1, 60);
        due("judge, no CUPS", none.judge(2, 0), NOT_SO);
        due("judge, no CUPS, at the end", none.judge(2, 60), NOT_SO);
        due("judge, no CUPS, TAPE with nothing", none.judge(3, 0), NOT_SO);
        LeavesObject x = judged(60);
        due("judge, all, up to the end", x.judge(2, 57), NOT_SO);
        x.set(2, 0, 0);
        due("judge, the last is otherwise", x.judge(2, 57), 2);
        x.set(1, 0, 0);
        due("judge, the second is", x.judge(2, 57), 1);
        x.set(0, 0, 0);
        due("judge, the first is", x.judge(2, 57), 0);
        x.item(2, 57, 65536);
        due("judge, the item is cut", x.judge(2, 57), 1);
    }

    private static void judgedSoFar() throws IOException {
        sentence("100 and how many were looked at, if the row ends ahead of that (or the place is below 0, or the TAPE holds nothing).");
        LeavesObject x = judged(3);
        due("judge(2, 0)", x.judge(2, 0), NOT_SO);
        due("judge(2, 3), at the end", x.judge(2, 3), 100);
        due("judge(2, 4)", x.judge(2, 4), 100);
        due("judge(2, MAX)", x.judge(2, MAX), 100);
        due("judge(2, -1)", x.judge(2, -1), 100);
        due("judge(2, MIN)", x.judge(2, MIN), 100);
        due("judge(3, 0), nothing", x.judge(3, 0), 100);
        due("judge(2, 2), otherwise ahead of the end", x.judge(2, 2), 0);
        x.set(0, 0, at(3));
        due("judge(2, 2)", x.judge(2, 2), 101);
        x.set(0, 0, 4095);
        x.set(1, 0, at(3));
        due("judge(2, 1)", x.judge(2, 1), 102);
        due("judge(2, 2), otherwise", x.judge(2, 2), 0);
        x.tape(2, 1, 0);
        due("judge(2, 0), no places", x.judge(2, 0), 100);
    }

    public static void main(String[] args) throws IOException, ReflectiveOperationException {
        cells();
        bits();
        nextToOneAnother();
        fiveCups();
        numbersOfACup();
        firstNight();
        hundredBytes();
        clauses();
        words();
        tests();
        eitherAndBoth();
        letters();
        nightModuloTen();
        within();
        faultAtEachPlace();
        newestInnHolds();
        wills();
        riseAndFall();
        spread();
        thin();
        tip();
        swirl();
        backSpread();
        backThin();
        backTipAndSwirl();
        shy();
        plain();
        blank();
        wise();
        toldOne();
        refuses();
        moodRises();
        moodFalls();
        nightGoes();
        askedBeyondRefused();
        after();
        comes();
        near();
        fullest();
        firstNo();
        joinedAndTwice();
        show();
        alike();
        mirrored();
        next();
        seen();
        moodsOfOne();
        canOfOne();
        odds();
        mean();
        ends();
        eveningOfTheLastNight();
        looked();
        actsWrap();
        bodiesWrap();
        plainTells();
        trace();
        traceIsFull();
        imageOfAll();
        imageOfRows();
        images();
        tapesAtFirst();
        judged();
        judgedSoFar();
        end("terms");
    }
}
