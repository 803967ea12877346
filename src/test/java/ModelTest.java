import java.util.ArrayList;
import java.util.Arrays;
import java.util.LinkedHashSet;
import java.util.List;
import java.util.Random;
import java.util.Set;

/**
 * Runs of many calls, each answer compared with that of a second, slow program that is written
 * another way from ../shared/DOC.md alone: leaves are a grid, an INN stays a text, an INN's FAULT
 * comes from all the ways in which the grammar can go on. Its numbers come from a fixed seed.
 */
public final class ModelTest {
    private static final int NONE = -1, BAD = -2, STATE = -3, FULL = -4, NOT_SO = -5;
    private static final int NOTHING = -11, CAST = -12, PLACE = -13, SIZE = -14;
    private static final long NO = Long.MIN_VALUE;
    private static final int[] ABOVE = {-1, 0, 0, 0, 1, 2, 3};

    // ---- leaves as a grid

    private static boolean[][] grid(int bits) {
        boolean[][] grid = new boolean[3][4];
        for (int cell = 0; cell < 12; cell++) {
            grid[cell / 4][cell % 4] = (bits >> cell & 1) == 1;
        }
        return grid;
    }

    private static int bits(boolean[][] grid) {
        int bits = 0;
        for (int cell = 0; cell < 12; cell++) {
            bits += grid[cell / 4][cell % 4] ? 1 << cell : 0;
        }
        return bits;
    }

    private static int nextTo(boolean[][] grid, int row, int column) {
        int many = 0;
        for (int r = 0; r < 3; r++) {
            for (int c = 0; c < 4; c++) {
                if (Math.abs(r - row) + Math.abs(c - column) == 1 && grid[r][c]) {
                    many++;
                }
            }
        }
        return many;
    }

    private static int done(int bits, int saying, boolean back) {
        boolean[][] from = grid(bits);
        boolean[][] to = new boolean[3][4];
        for (int r = 0; r < 3; r++) {
            for (int c = 0; c < 4; c++) {
                int ahead = back ? c + 1 : c - 1;
                switch (saying) {
                    case 0:
                        to[r][c] = from[r][c] || ahead >= 0 && ahead < 4 && from[r][ahead];
                        break;
                    case 1:
                        to[r][c] = back ? from[r][c] || nextTo(from, r, c) >= 2 : from[r][c] && nextTo(from, r, c) > 0;
                        break;
                    case 2:
                        to[r][c] = from[r][(ahead + 4) % 4];
                        break;
                    default:
                        to[r][c] = from[(r + (back ? 1 : 2)) % 3][c];
                        break;
                }
            }
        }
        return bits(to);
    }

    private static int many(int bits) {
        int many = 0;
        for (int cell = 0; cell < 12; cell++) {
            many += bits >> cell & 1;
        }
        return many;
    }

    // ---- cups, and all that an image takes

    private static final class MCup {
        int number, kind, v, leaves, mood, refused;
        int[] line = new int[4];

        MCup copy() {
            MCup copy = new MCup();
            copy.number = number;
            copy.kind = kind;
            copy.v = v;
            copy.leaves = leaves;
            copy.mood = mood;
            copy.refused = refused;
            copy.line = line.clone();
            return copy;
        }

        int does(int saying, int night) {
            switch (kind) {
                case 0:
                    return done(leaves, saying, false);
                case 1:
                    return many(leaves) > 6 ? leaves : done(leaves, saying, false);
                case 2:
                    return done(leaves, saying, true);
                case 3:
                    return done(done(leaves, saying, false), saying, false);
                case 4:
                    return (many(leaves) > 6 ? leaves : done(leaves, saying, false)) % 256;
                case 5:
                    return done(leaves, saying, night % 2 == 1);
                default:
                    return done(done(leaves, saying, false), saying, false) | line[night % 4];
            }
        }

        boolean said(int saying, int night, String inn) {
            if (will(inn, this, saying, night) < mood) {
                refused++;
                mood = Math.min(9, mood + last(inn, "rise", 2));
                return false;
            }
            leaves = does(saying, night);
            mood = Math.max(0, mood - last(inn, "fall", 1));
            return true;
        }
    }

    private static final class World {
        List<MCup> cups = new ArrayList<>();
        int night;
        List<int[]> seen = new ArrayList<>();
        List<int[]> evening = new ArrayList<>();
        List<int[]> book = new ArrayList<>();
        String inn = "";

        World copy() {
            World copy = new World();
            for (MCup cup : cups) {
                copy.cups.add(cup.copy());
            }
            copy.night = night;
            copy.seen.addAll(seen);
            copy.evening.addAll(evening);
            copy.book.addAll(book);
            copy.inn = inn;
            return copy;
        }

        void nightGoes() {
            night++;
            for (MCup cup : cups) {
                cup.mood = Math.max(0, cup.mood - 1);
            }
        }

        int joined() {
            int joined = 0;
            for (MCup cup : cups) {
                joined |= cup.leaves;
            }
            return joined;
        }
    }

    // ---- inns as texts

    private static final char S = 1000, CLAUSE = 2000, E = 3000, T = 4000, F = 5000, TEST = 6000, NUMBER = 7000;

    private static String sym(int symbol, int level) {
        return String.valueOf((char) (symbol + level));
    }

    /** What a symbol can become: S with how many CLAUSES may come, E, T and F with how many ( and ! they are within. */
    private static List<String> becomes(char symbol) {
        int level = symbol % 1000;
        List<String> ways = new ArrayList<>();
        switch ((char) (symbol - level)) {
            case S:
                ways.add(sym(CLAUSE, 0));
                if (level > 1) {
                    ways.add(sym(CLAUSE, 0) + ";" + sym(S, level - 1));
                }
                break;
            case CLAUSE:
                ways.add("will " + sym(NUMBER, 0) + " " + sym(E, 0));
                ways.add("balk " + sym(NUMBER, 0) + " " + sym(E, 0));
                ways.add("rise " + sym(NUMBER, 0));
                ways.add("fall " + sym(NUMBER, 0));
                break;
            case E:
                ways.add(sym(T, level));
                ways.add(sym(T, level) + "|" + symbol);
                break;
            case T:
                ways.add(sym(F, level));
                ways.add(sym(F, level) + "&" + symbol);
                break;
            case F:
                ways.add(sym(TEST, 0));
                if (level < 4) {
                    ways.add("!" + sym(F, level + 1));
                    ways.add("(" + sym(E, level + 1) + ")");
                }
                break;
            case TEST:
                for (char letter : "cwkvln".toCharArray()) {
                    for (char between : "<=>".toCharArray()) {
                        ways.add("" + letter + between + sym(NUMBER, 0));
                    }
                }
                break;
            default:
                for (char tens = '0'; tens <= '9'; tens++) {
                    ways.add("" + tens);
                    for (char ones = '0'; ones <= '9'; ones++) {
                        ways.add("" + tens + ones);
                    }
                }
                break;
        }
        return ways;
    }

    private static void open(String form, Set<String> all) {
        if (form.isEmpty() || form.charAt(0) < 1000) {
            all.add(form);
            return;
        }
        for (String way : becomes(form.charAt(0))) {
            open(way + form.substring(1), all);
        }
    }

    /** -1: it is an INN. */
    private static int fault(String text) {
        Set<String> forms = new LinkedHashSet<>();
        open(sym(S, 10), forms);
        for (int i = 0; i < text.length(); i++) {
            Set<String> further = new LinkedHashSet<>();
            for (String form : forms) {
                if (!form.isEmpty() && form.charAt(0) == text.charAt(i)) {
                    open(form.substring(1), further);
                }
            }
            if (further.isEmpty()) {
                return i;
            }
            forms = further;
        }
        return forms.contains("") ? -1 : text.length();
    }

    private static int last(String inn, String word, int without) {
        int n = without;
        for (String clause : inn.split(";")) {
            if (clause.startsWith(word)) {
                n = Integer.parseInt(clause.split(" ")[1]);
            }
        }
        return n;
    }

    private static int will(String inn, MCup cup, int saying, int night) {
        int will = 5;
        for (String clause : inn.split(";")) {
            String[] parts = clause.split(" ");
            if (parts.length == 3 && holds(parts[2], cup, saying, night)) {
                will += (parts[0].equals("will") ? 1 : -1) * Integer.parseInt(parts[1]);
            }
        }
        return Math.max(0, will);
    }

    private static int outside(String e, char sign) {
        int open = 0;
        for (int i = 0; i < e.length(); i++) {
            open += e.charAt(i) == '(' ? 1 : e.charAt(i) == ')' ? -1 : 0;
            if (open == 0 && e.charAt(i) == sign) {
                return i;
            }
        }
        return -1;
    }

    private static boolean holds(String e, MCup cup, int saying, int night) {
        int or = outside(e, '|');
        if (or >= 0) {
            return holds(e.substring(0, or), cup, saying, night) | holds(e.substring(or + 1), cup, saying, night);
        }
        int and = outside(e, '&');
        if (and >= 0) {
            return holds(e.substring(0, and), cup, saying, night) & holds(e.substring(and + 1), cup, saying, night);
        }
        if (e.charAt(0) == '!') {
            return !holds(e.substring(1), cup, saying, night);
        }
        if (e.charAt(0) == '(') {
            return holds(e.substring(1, e.length() - 1), cup, saying, night);
        }
        int[] numbers = {cup.number, saying, cup.kind, cup.v, many(cup.leaves), night % 10};
        int asked = numbers["cwkvln".indexOf(e.charAt(0))];
        int number = Integer.parseInt(e.substring(2));
        char between = e.charAt(1);
        return between == '<' ? asked < number : between == '=' ? asked == number : asked > number;
    }

    // ---- acts: a class for each KIND, so that Java itself finds the bodies

    private static class Actor {
        final int i, v;
        final List<Integer> ran = new ArrayList<>();

        Actor(int i, int v) {
            this.i = i;
            this.v = v;
        }

        int lies(int x) {
            ran.add(10);
            return x + i;
        }

        int says(int x) {
            ran.add(11);
            return lies(x) - v;
        }

        int tells(int x) {
            ran.add(12);
            return says(x) * 2;
        }
    }

    private static class Shy extends Actor {
        Shy(int i, int v) {
            super(i, v);
        }

        @Override
        int says(int x) {
            ran.add(20);
            return super.says(x) ^ 6;
        }
    }

    private static class Stubborn extends Actor {
        Stubborn(int i, int v) {
            super(i, v);
        }

        @Override
        int lies(int x) {
            ran.add(30);
            return super.lies(x * 3);
        }
    }

    private static class Plain extends Actor {
        Plain(int i, int v) {
            super(i, v);
        }

        @Override
        int tells(int x) {
            ran.add(40);
            return super.tells(x) + says(1);
        }
    }

    private static class Blank extends Shy {
        Blank(int i, int v) {
            super(i, v);
        }

        @Override
        int lies(int x) {
            ran.add(50);
            return -super.lies(x);
        }

        @Override
        int says(int x) {
            ran.add(51);
            return super.says(x + 1);
        }
    }

    private static class Wise extends Stubborn {
        Wise(int i, int v) {
            super(i, v);
        }

        @Override
        int tells(int x) {
            ran.add(60);
            return super.tells(x - i);
        }
    }

    private static class Told extends Plain {
        Told(int i, int v) {
            super(i, v);
        }

        @Override
        int says(int x) {
            ran.add(70);
            return super.says(x) + super.lies(2);
        }

        @Override
        int lies(int x) {
            ran.add(71);
            return super.lies(x) ^ v;
        }
    }

    private static Actor actor(int kind, int i, int v) {
        switch (kind) {
            case 0:
                return new Actor(i, v);
            case 1:
                return new Shy(i, v);
            case 2:
                return new Stubborn(i, v);
            case 3:
                return new Plain(i, v);
            case 4:
                return new Blank(i, v);
            case 5:
                return new Wise(i, v);
            default:
                return new Told(i, v);
        }
    }

    // ---- the second program

    private static final class Model {
        World now = new World();
        World image;
        String text = "";
        int inns;
        List<Integer> ran = new ArrayList<>();
        int[] sorts = {-1, -1, -1, -1, -1, -1};
        long[][] tapes = new long[6][];

        private MCup at(int cup) {
            return cup >= 0 && cup < now.cups.size() ? now.cups.get(cup) : null;
        }

        private static boolean in(int n, int least, int most) {
            return least <= n && n <= most;
        }

        /** The LEAVES after these SAYINGS, one behind the other. */
        private int afterAll(MCup one, int... sayings) {
            MCup copy = one.copy();
            for (int saying : sayings) {
                copy.said(saying, now.night, now.inn);
            }
            return copy.leaves;
        }

        private static int[][] rows(int length) {
            int[][] rows = new int[(int) Math.round(Math.pow(4, length))][length];
            for (int i = 0; i < rows.length; i++) {
                int rest = i;
                for (int k = length - 1; k >= 0; k--) {
                    rows[i][k] = rest % 4;
                    rest /= 4;
                }
            }
            return rows;
        }

        long call(int which, int a, int b, int c, long v) {
            switch (which) {
                case 0: return cup(a, b, c);
                case 1: return of(a, b);
                case 2: return set(a, b, c);
                case 3: return line(a, b, c);
                case 4: return feed(a);
                case 5: return inn();
                case 6: return told(a);
                case 7: return say(a, b);
                case 8: return pass(a);
                case 9: return after(a, b, c);
                case 10: return comes(a, b, c);
                case 11: return near(a, b, c);
                case 12: return fullest(a);
                case 13: return firstNo(a, b);
                case 14: return show(a);
                case 15: return next(a);
                case 16: return told(now.seen, a, b, a >= 0 && a < 4, b >= 0 && b < 4096, 5);
                case 17: return fits(a, b, true);
                case 18: return fits(a, b, false);
                case 19: return odds(a, b, c);
                case 20: return mean(a);
                case 21: return told(now.evening, a, b, a == 5 || at(a) != null && b >= 0 && b < 4, true, 10);
                case 22: return ends(a);
                case 23: return told(now.book, a, b, at(a) != null, b >= 0 && b < 4096, 8);
                case 24: return looked();
                case 25: return judge(a, b);
                case 26: image = now.copy(); return now.cups.size();
                case 27: return undo();
                case 28: return act(a, b, c);
                case 29: return a >= 0 && a < Math.min(ran.size(), 20) ? ran.get(a) : NONE;
                case 30: return taken(a, b);
                case 31: return count(a);
                case 32: return tape(a, b, c);
                case 33: return item(a, b, v);
                case 34: return in(a, 0, 5) && sorts[a] >= 0 && in(b, 0, tapes[a].length - 1) ? tapes[a][b] : NO;
                default: return shift(a, b, (int) (v >> 32), c, (int) v);
            }
        }

        private int cup(int kind, int v, int leaves) {
            if (!in(kind, 0, 6)) {
                return NONE;
            }
            if (!in(v, 0, 9) || !in(leaves, 0, 4095)) {
                return BAD;
            }
            if (now.cups.size() == 5) {
                return FULL;
            }
            MCup cup = new MCup();
            cup.number = now.cups.size();
            cup.kind = kind;
            cup.v = v;
            cup.leaves = leaves;
            now.cups.add(cup);
            return cup.number;
        }

        private int of(int cup, int what) {
            MCup one = at(cup);
            if (one == null) {
                return NONE;
            }
            if (in(what, 10, 13)) {
                return will(now.inn, one, what - 10, now.night);
            }
            if (in(what, 20, 23)) {
                return one.does(what - 20, now.night);
            }
            int[] all = {one.kind, one.v, one.leaves, one.mood, one.refused};
            return in(what, 0, 4) ? all[what] : NONE;
        }

        private int set(int cup, int what, int n) {
            MCup one = at(cup);
            if (one == null || !in(what, 0, 1)) {
                return NONE;
            }
            if (!in(n, 0, what == 0 ? 4095 : 9)) {
                return BAD;
            }
            int was = of(cup, what + 2);
            if (what == 0) {
                one.leaves = n;
            } else {
                one.mood = n;
            }
            return was;
        }

        private int line(int cup, int part, int n) {
            MCup one = at(cup);
            if (one == null || !in(part, 0, 3)) {
                return NONE;
            }
            if (!in(n, 0, 9)) {
                return BAD;
            }
            if (one.kind != 6) {
                return STATE;
            }
            int was = one.line[part];
            one.line[part] = n;
            return was;
        }

        private int feed(int sign) {
            if (!in(sign, 0, 127)) {
                return BAD;
            }
            if (text.length() == 100) {
                return FULL;
            }
            text += (char) sign;
            return text.length();
        }

        private int inn() {
            if (inns == 6) {
                return FULL;
            }
            String read = text;
            text = "";
            int fault = fault(read);
            if (fault >= 0) {
                return -10 - fault;
            }
            now.inn = read;
            return inns++;
        }

        private int told(int what) {
            int[] lain = new int[12];
            int joined = 0, twice = 0, mirrored = 0, alike = NOT_SO, fewest = 99;
            for (MCup cup : now.cups) {
                boolean same = true;
                for (int cell = 0; cell < 12; cell++) {
                    lain[cell] += cup.leaves >> cell & 1;
                    int other = cell / 4 * 4 + 3 - cell % 4;
                    same &= (cup.leaves >> cell & 1) == (cup.leaves >> other & 1);
                }
                mirrored += same ? 1 << cup.number : 0;
                for (MCup other : now.cups) {
                    int cells = many(cup.leaves ^ other.leaves);
                    if (other.number > cup.number && cells < fewest) {
                        fewest = cells;
                        alike = 10 * cup.number + other.number;
                    }
                }
            }
            for (int cell = 0; cell < 12; cell++) {
                joined += lain[cell] > 0 ? 1 << cell : 0;
                twice += lain[cell] > 1 ? 1 << cell : 0;
            }
            int[] all = {now.night, last(now.inn, "rise", 2), last(now.inn, "fall", 1), joined, twice, mirrored, alike};
            return in(what, 0, 6) ? all[what] : NONE;
        }

        private int say(int cup, int saying) {
            if (at(cup) == null || !in(saying, 0, 3)) {
                return NONE;
            }
            return at(cup).said(saying, now.night, now.inn) ? 1 : 0;
        }

        private int pass(int n) {
            if (!in(n, 0, 60)) {
                return BAD;
            }
            if (now.night + n > 9999) {
                return STATE;
            }
            for (int i = 0; i < n; i++) {
                now.nightGoes();
            }
            return now.night;
        }

        private int after(int cup, int saying, int what) {
            if (at(cup) == null || !in(saying, 0, 3) || !in(what, 0, 2)) {
                return NONE;
            }
            MCup copy = at(cup).copy();
            boolean refuses = !copy.said(saying, now.night, now.inn);
            return what == 0 ? copy.leaves : what == 1 ? copy.mood : refuses ? 1 : 0;
        }

        private int comes(int cup, int shape, int k) {
            MCup one = at(cup);
            if (one == null || !in(k, -1, 3)) {
                return NONE;
            }
            if (!in(shape, 0, 4095)) {
                return BAD;
            }
            for (int length = 0; length <= 4; length++) {
                for (int[] row : rows(length)) {
                    if (afterAll(one, row) == shape) {
                        return k == -1 ? length : k < length ? row[k] : NOT_SO;
                    }
                }
            }
            return NOT_SO;
        }

        private int near(int cup, int shape, int k) {
            MCup one = at(cup);
            if (one == null || !in(k, -1, 2)) {
                return NONE;
            }
            if (!in(shape, 0, 4095)) {
                return BAD;
            }
            int[] best = null;
            int fewest = 99;
            for (int[] row : rows(3)) {
                int cells = many(afterAll(one, row) ^ shape);
                if (cells < fewest) {
                    fewest = cells;
                    best = row;
                }
            }
            return k == -1 ? fewest : best[k];
        }

        private int fullest(int cup) {
            if (at(cup) == null) {
                return NONE;
            }
            int most = 0;
            for (int[] row : rows(4)) {
                most = Math.max(most, many(afterAll(at(cup), row)));
            }
            return most;
        }

        private int firstNo(int cup, int saying) {
            if (at(cup) == null || !in(saying, 0, 3)) {
                return NONE;
            }
            MCup copy = at(cup).copy();
            for (int i = 1; i <= 60; i++) {
                if (!copy.said(saying, now.night, now.inn)) {
                    return i;
                }
            }
            return NOT_SO;
        }

        private int show(int shape) {
            if (!in(shape, 0, 4095)) {
                return BAD;
            }
            for (int size = 0; size <= now.cups.size(); size++) {
                for (int set = 0; set < 1 << now.cups.size(); set++) {
                    int left = shape;
                    for (MCup cup : now.cups) {
                        left &= (set >> cup.number) % 2 == 1 ? ~cup.leaves : -1;
                    }
                    if (many(set) == size && left == 0) {
                        return set;
                    }
                }
            }
            return NOT_SO;
        }

        private int next(int shape) {
            if (!in(shape, 0, 4095)) {
                return BAD;
            }
            int best = NOT_SO, fewest = 99;
            for (int i = 0; i < 4 * now.cups.size(); i++) {
                World copy = now.copy();
                copy.cups.get(i / 4).said(i % 4, copy.night, copy.inn);
                int cells = many(copy.joined() ^ shape);
                if (cells < fewest) {
                    fewest = cells;
                    best = i / 4 * 10 + i % 4;
                }
            }
            return best;
        }

        /** A row told by hand: to SEEN, the EVENING or the BOOK. */
        private int told(List<int[]> rows, int a, int b, boolean there, boolean good, int most) {
            if (a == -1) {
                rows.clear();
                return 0;
            }
            if (!there) {
                return NONE;
            }
            if (!good) {
                return BAD;
            }
            if (rows.size() == most) {
                return FULL;
            }
            rows.add(new int[] {a, b});
            return rows.size();
        }

        private int fits(int cup, int what, boolean asMood) {
            if (at(cup) == null || !in(what, 0, 1)) {
                return NONE;
            }
            List<Integer> fitting = new ArrayList<>();
            for (int n = 0; n <= 9; n++) {
                MCup copy = at(cup).copy();
                copy.mood = asMood ? n : copy.mood;
                copy.v = asMood ? copy.v : n;
                boolean fits = true;
                for (int[] row : now.seen) {
                    fits &= afterAll(copy, row[0]) == row[1];
                }
                if (fits) {
                    fitting.add(n);
                }
            }
            return what == 0 ? fitting.size() : fitting.isEmpty() ? NOT_SO : fitting.get(0);
        }

        private static long fraction(int above, int below, int part) {
            int a = above, b = below;
            while (b != 0) {
                int rest = a % b;
                a = b;
                b = rest;
            }
            return (part == 0 ? above : below) / a;
        }

        private long odds(int cup, int q, int part) {
            if (at(cup) == null || !in(q, 0, 12) || !in(part, 0, 1)) {
                return NO;
            }
            int enough = 0;
            for (int saying = 0; saying < 4; saying++) {
                enough += many(afterAll(at(cup), saying)) >= q ? 1 : 0;
            }
            return fraction(enough, 4, part);
        }

        private long mean(int part) {
            int all = 0;
            for (MCup cup : now.cups) {
                all += many(cup.leaves);
            }
            return now.cups.isEmpty() || !in(part, 0, 1) ? NO : fraction(all, now.cups.size(), part);
        }

        private int ends(int what) {
            World copy = now.copy();
            int refused = 0;
            for (int[] row : now.evening) {
                if (row[0] == 5) {
                    copy.nightGoes();
                } else {
                    refused += copy.cups.get(row[0]).said(row[1], copy.night, copy.inn) ? 0 : 1;
                }
            }
            return what == 0 ? copy.joined() : what == 1 ? refused : NONE;
        }

        private int looked() {
            for (int i = 0; i < now.book.size(); i++) {
                if (at(now.book.get(i)[0]).leaves != now.book.get(i)[1]) {
                    return i;
                }
            }
            return NOT_SO;
        }

        private int judge(int tape, int i) {
            if (!in(tape, 0, 5)) {
                return NONE;
            }
            if (sorts[tape] >= 0 && sorts[tape] != 1) {
                return CAST;
            }
            for (MCup cup : now.cups) {
                long[] row = tapes[tape];
                if (row == null || i < 0 || (long) i + cup.number >= row.length) {
                    return 100 + cup.number;
                }
                if (row[i + cup.number] != cup.leaves) {
                    return cup.number;
                }
            }
            return NOT_SO;
        }

        private int undo() {
            if (image == null) {
                return STATE;
            }
            now = image.copy();
            return now.cups.size();
        }

        private int act(int cup, int act, int x) {
            ran = new ArrayList<>();
            if (at(cup) == null || !in(act, 0, 2)) {
                return 0;
            }
            Actor actor = actor(at(cup).kind, cup, at(cup).v);
            ran = actor.ran;
            return act == 0 ? actor.lies(x) : act == 1 ? actor.says(x) : actor.tells(x);
        }

        private int taken(int cup, int k) {
            if (!in(k, 0, 6)) {
                return BAD;
            }
            if (at(cup) == null) {
                return NOTHING;
            }
            for (int kind = at(cup).kind; kind >= 0; kind = ABOVE[kind]) {
                if (kind == k) {
                    return at(cup).kind;
                }
            }
            return CAST;
        }

        private int count(int what) {
            int[] all = {now.cups.size(), inns, now.seen.size(), now.evening.size(), now.book.size(), text.length(),
                ran.size()};
            return in(what, 0, 6) ? all[what] : BAD;
        }

        private int tape(int tape, int sort, int n) {
            if (!in(tape, 0, 5)) {
                return NONE;
            }
            if (!in(sort, -1, 4) || sort >= 0 && n > 60) {
                return BAD;
            }
            if (sort >= 0 && n < 0) {
                return SIZE;
            }
            sorts[tape] = sort;
            tapes[tape] = sort < 0 ? null : new long[n];
            return 1;
        }

        private int item(int tape, int i, long v) {
            if (!in(tape, 0, 5)) {
                return NONE;
            }
            if (sorts[tape] < 0) {
                return NOTHING;
            }
            if (!in(i, 0, tapes[tape].length - 1)) {
                return PLACE;
            }
            long[] kept = {(byte) v, (short) v, (int) v, v, v == 0 ? 0 : 1};
            tapes[tape][i] = kept[sorts[tape]];
            return 1;
        }

        private int shift(int tape, int i, int other, int j, int n) {
            if (!in(tape, 0, 5) || !in(other, 0, 5)) {
                return NONE;
            }
            if (sorts[tape] < 0 || sorts[other] < 0) {
                return NOTHING;
            }
            if (sorts[tape] != sorts[other]) {
                return CAST;
            }
            boolean reach = (long) i + n <= tapes[tape].length && (long) j + n <= tapes[other].length;
            if (n < 0 || i < 0 || j < 0 || !reach) {
                return PLACE;
            }
            long[] before = tapes[tape].clone();
            for (int k = 0; k < n; k++) {
                tapes[other][j + k] = before[i + k];
            }
            return n;
        }
    }

    // ---- the runs

    private static long asked(LeavesObject x, int which, int a, int b, int c, long v) {
        switch (which) {
            case 0: return x.cup(a, b, c);
            case 1: return x.of(a, b);
            case 2: return x.set(a, b, c);
            case 3: return x.line(a, b, c);
            case 4: return x.feed(a);
            case 5: return x.inn();
            case 6: return x.told(a);
            case 7: return x.say(a, b);
            case 8: return x.pass(a);
            case 9: return x.after(a, b, c);
            case 10: return x.comes(a, b, c);
            case 11: return x.near(a, b, c);
            case 12: return x.fullest(a);
            case 13: return x.firstNo(a, b);
            case 14: return x.show(a);
            case 15: return x.next(a);
            case 16: return x.see(a, b);
            case 17: return x.moods(a, b);
            case 18: return x.can(a, b);
            case 19: return x.odds(a, b, c);
            case 20: return x.mean(a);
            case 21: return x.evening(a, b);
            case 22: return x.ends(a);
            case 23: return x.book(a, b);
            case 24: return x.looked();
            case 25: return x.judge(a, b);
            case 26: return x.image();
            case 27: return x.undo();
            case 28: return x.act(a, b, c);
            case 29: return x.trace(a);
            case 30: return x.taken(a, b);
            case 31: return x.count(a);
            case 32: return x.tape(a, b, c);
            case 33: return x.item(a, b, v);
            case 34: return x.read(a, b);
            default: return x.shift(a, b, (int) (v >> 32), c, (int) v);
        }
    }

    private static final class Run {
        private static final int[] EDGES = {-2, -1, 4, 5, 6, 7, 9, 10, 12, 13, 60, 61, 4095, 4096, 128,
            Integer.MIN_VALUE, Integer.MAX_VALUE, Integer.MIN_VALUE + 3, Integer.MAX_VALUE - 1};
        final Random random;
        final LeavesObject x = new LeavesObject();
        final Model model = new Model();
        final List<String> calls = new ArrayList<>();

        Run(long seed) {
            random = new Random(seed);
        }

        private boolean same(int which, int a, int b, int c, long v) {
            long got = asked(x, which, a, b, c, v);
            long want = model.call(which, a, b, c, v);
            calls.add("call " + which + Arrays.asList(a, b, c, v) + " answered " + got + ", due is " + want);
            return got == want;
        }

        private int below(int n) {
            return random.nextInt(n);
        }

        private int leaves() {
            return random.nextInt(3) == 0 ? 1 << below(12) | 1 << below(12) : below(4096);
        }

        /** A shape that may well come: what is there after some sayings, or something else. */
        private int shape() {
            MCup one = model.at(below(5));
            if (one == null || below(3) == 0) {
                return leaves();
            }
            int[] sayings = new int[below(5)];
            for (int i = 0; i < sayings.length; i++) {
                sayings[i] = below(4);
            }
            return model.afterAll(one, sayings);
        }

        private String test() {
            String letter = String.valueOf("cwwkvvvlln".charAt(below(10)));
            return letter + "<=>".charAt(below(3)) + (below(8) == 0 ? below(100) : below(6));
        }

        private String factor(int depth) {
            int way = below(6);
            if (depth >= 4 && below(30) != 0 || depth > 6 || way > 2) {
                return test();
            }
            return way == 0 ? "!" + factor(depth + 1) : "(" + either(depth + 1) + ")";
        }

        private String either(int depth) {
            String e = factor(depth);
            while (below(3) == 0) {
                e += (below(2) == 0 ? "|" : "&") + factor(depth);
            }
            return e;
        }

        private String inn() {
            String text = "";
            int clauses = below(12) == 0 ? 9 + below(3) : 1 + below(5);
            for (int i = 0; i < clauses; i++) {
                String clause = below(3) > 0 && clauses < 9
                    ? (below(3) == 0 ? "will " : "balk ") + below(10) + " " + either(0)
                    : (below(2) == 0 ? "rise " : "fall ") + below(4);
                text += (i == 0 ? "" : ";") + clause;
            }
            if (below(3) == 0) {
                int place = below(text.length());
                String signs = "wilbakrsef ;()!&|<=>cvn019";
                char other = signs.charAt(below(signs.length()));
                text = text.substring(0, place) + (below(4) == 0 ? "" : other) + text.substring(place + below(2));
            }
            return text.length() <= 100 ? text : below(4) == 0 ? text.substring(0, 100) : "rise 1;" + test();
        }

        private boolean innRead() {
            for (char sign : inn().toCharArray()) {
                if (!same(4, sign, 0, 0, 0)) {
                    return false;
                }
            }
            return same(5, 0, 0, 0, 0);
        }

        private boolean oneCall() {
            int which = below(36);
            int a = below(5), b = below(4), c = below(4);
            long v = ((long) below(6) << 32) + below(4);
            switch (which) {
                case 0: a = below(7); b = below(10); c = leaves(); break;
                case 1: b = new int[] {0, 1, 2, 3, 4, 10, 11, 12, 13, 20, 21, 22, 23}[below(13)]; break;
                case 2: b = below(2); c = b == 0 ? leaves() : below(10); break;
                case 3: c = below(10); break;
                case 4: a = below(128); break;
                case 6: case 31: a = below(7); break;
                case 8: a = below(40) == 0 ? 60 : below(4); break;
                case 9: c = below(3); break;
                case 10: case 11: b = shape(); c = below(4) - 1; break;
                case 14: case 15: a = shape(); break;
                case 16: a = below(4); b = model.at(0) == null ? leaves() : model.afterAll(model.at(0), a); break;
                case 17: case 18: b = below(2); a = below(2) * a; break;
                case 19: b = below(13); c = below(2); break;
                case 20: case 22: a = below(2); break;
                case 21: a = below(6); break;
                case 23: b = model.at(a) == null || below(3) == 0 ? leaves() : model.at(a).leaves; break;
                case 28: b = below(3); c = random.nextInt() >> below(32); break;
                case 30: b = below(7); break;
                case 32: b = below(3) == 0 ? 1 : below(5); c = below(12); break;
                case 33: v = below(2) == 0 && model.at(b) != null ? model.at(b).leaves : random.nextLong() >> below(64);
                    break;
                default: break;
            }
            if (below(12) == 0) {
                int edge = EDGES[below(EDGES.length)];
                switch (below(4)) {
                    case 0: a = edge; break;
                    case 1: b = edge; break;
                    case 2: c = edge; break;
                    default: v = (long) edge << 32 | EDGES[below(EDGES.length)] & 0xFFFFFFFFL; break;
                }
            }
            return same(which, a, b, c, v);
        }

        private boolean cupsTold() {
            int many = below(6);
            for (int i = 0; i < many; i++) {
                if (!same(0, below(7), below(10), leaves(), 0)) {
                    return false;
                }
            }
            return true;
        }

        /** Leaves of all told to a row of shorts, so that judging goes on for more than one. */
        private boolean judged() {
            int from = below(4);
            int wrongOne = below(8);
            if (!same(32, 0, 1, from + below(7), 0)) {
                return false;
            }
            for (int i = 0; i < model.now.cups.size(); i++) {
                int leaves = model.now.cups.get(i).leaves;
                if (!same(33, 0, from + i, 0, i == wrongOne ? leaves ^ 1 : leaves)) {
                    return false;
                }
            }
            return same(25, 0, from, 0, 0);
        }

        /** Without this, moods soon fall to 0 and leaves soon fill all cells. */
        private boolean unsettled() {
            return same(2, below(5), 1, below(10), 0) && same(2, below(5), 0, leaves(), 0);
        }

        boolean goesWell() {
            if (!cupsTold() || !innRead()) {
                return false;
            }
            while (calls.size() < 400) {
                int way = below(50);
                boolean goesOn = way == 0 ? innRead() : way == 1 ? judged() : way < 10 ? unsettled() : oneCall();
                if (!goesOn) {
                    return false;
                }
            }
            return true;
        }
    }

    public static void main(String[] args) {
        int runs = args.length > 0 ? Integer.parseInt(args[0]) : 400;
        for (int seed = 1; seed <= runs; seed++) {
            Run run = new Run(seed);
            if (!run.goesWell()) {
                run.calls.forEach(System.out::println);
                System.out.println("model: the last call of run " + seed + " is not as due");
                System.exit(1);
            }
        }
        System.out.println("model: all answers of " + runs + " runs are as due");
    }
}
