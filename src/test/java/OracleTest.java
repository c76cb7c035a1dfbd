import java.nio.charset.StandardCharsets;
import java.util.ArrayList;
import java.util.List;
import java.util.NoSuchElementException;
import java.util.Random;

/** Random texts and calls, each answered by PondReader and by the Oracle. */
public final class OracleTest {
    private static final Check CHECK = new Check();
    private static final long INDEX = 1L << 40;
    private static final long ELEMENT = 1L << 41;

    private final Random random;
    private final PondReader reader = new PondReader();
    private final Oracle oracle = new Oracle();
    private int wide = 4;
    private int high = 4;

    private OracleTest(long seed) {
        random = new Random(seed);
    }

    public static void main(String[] args) {
        int runs = args.length > 0 ? Integer.parseInt(args[0]) : 150;
        for (int seed = 0; seed < runs; seed++) {
            CHECK.about("run " + seed);
            new OracleTest(seed).run();
        }
        for (int seed = 0; seed < runs * 10; seed++) {
            CHECK.about("first call " + seed);
            new OracleTest(2000000 + seed).callFirst();
        }
        for (int seed = 0; seed < runs * 20; seed++) {
            CHECK.about("text " + seed);
            new OracleTest(1000000 + seed).tellOnly();
        }
        CHECK.end();
    }

    private int up(int bound) {
        return random.nextInt(bound);
    }

    private boolean often(int percent) {
        return up(100) < percent;
    }

    private void tellOnly() {
        for (int i = 0; i < 3; i++) {
            tell(often(80) ? broken(text()) : text());
        }
    }

    /** Each call as the first one behind a text or a change, when nothing can be worked out yet. */
    private void callFirst() {
        tell(rightText());
        for (int cell = up(wide * high); cell > 0 && often(70); cell--) {
            CHECK.due("cut(" + cell + ")", reader.cut(cell), oracle.cut(cell));
        }
        int k = kind();
        int c = cell();
        CHECK.due("fall", reader.fall(k, c, 0), oracle.fall(k, c, 0));
        call();
    }

    private void run() {
        tell(rightText());
        for (int i = 0; i < 70; i++) {
            call();
            if (often(1)) {
                tell(often(50) ? broken(text()) : rightText());
            }
        }
    }

    /** A text without a fault: a random law often has one. */
    private String rightText() {
        for (int tries = 0; tries < 1000; tries++) {
            String text = text();
            try {
                Oracle.Reading.read(text.getBytes(StandardCharsets.ISO_8859_1));
                return text;
            } catch (Oracle.Fault fault) {
                continue;
            }
        }
        throw new IllegalStateException("no text without a fault");
    }

    private void tell(String text) {
        byte[] bytes = text.getBytes(StandardCharsets.ISO_8859_1);
        if (often(5)) {
            CHECK.due("text beyond", reader.text(801), oracle.text(801));
        }
        for (int[] r : Tape.rows(bytes)) {
            CHECK.due("feed", reader.feed(r[0], r[1], r[2], r[3], r[4]), oracle.feed(r[0], r[1], r[2], r[3], r[4]));
        }
        int n = often(97) ? bytes.length : up(bytes.length + 30);
        String told = "text " + n + " of '" + text + "'";
        CHECK.due(told, reader.text(n), oracle.text(n));
        CHECK.due("fault(0) of " + told, reader.fault(0), oracle.fault(0));
        CHECK.due("fault(1) of " + told, reader.fault(1), oracle.fault(1));
        for (int what = -1; what <= 13; what++) {
            CHECK.due("count(" + what + ") of " + told, reader.count(what), oracle.count(what));
        }
        wide = Math.max(1, oracle.count(0));
        high = Math.max(1, oracle.count(1));
        if (n > 800 || reader.fault(0) != 0 && often(50)) {
            CHECK.due("text(0)", reader.text(0), oracle.text(0));
        }
    }

    private String cellText() {
        return up(wide) + " " + up(high);
    }

    private String word() {
        String[] some = {"a", "b", "fly", "stone", "zzzzzz", "ponds", "lan"};
        return some[up(some.length)];
    }

    private String text() {
        List<String> lines = new ArrayList<>();
        wide = 4;
        high = 4;
        int kinds = 1 + up(4);
        for (int i = 0; i < kinds; i++) {
            StringBuilder kind = new StringBuilder("kind k" + "abcd".charAt(i));
            for (int k = up(6); k >= 0; k--) {
                kind.append(often(30) ? " -" : " ").append(often(20) ? up(100) : 20 + up(80));
            }
            lines.add(kind + (often(50) ? " odds " + (1 + up(often(50) ? 3 : 99)) : ""));
        }
        if (often(90)) {
            wide = 1 + up(often(80) ? 5 : 8);
            high = 1 + up(often(80) ? 4 : 6);
            lines.add("pond " + wide + " " + high);
        }
        cellLines(lines, kinds);
        if (often(60)) {
            lines.add("law " + (often(70) ? lawOf(0, 3 + up(9)) : law(3 + up(12))));
        }
        if (often(50)) {
            lines.add("loss " + up(often(70) ? 12 : 51));
        }
        if (often(50)) {
            lines.add("thick " + up(100));
        }
        if (often(50)) {
            lines.add("sent " + up(100));
        }
        StringBuilder all = new StringBuilder();
        for (String line : lines) {
            if (all.length() + line.length() + 2 <= 800) {
                all.append(line).append(often(20) ? " ;\n" : ";");
            }
        }
        return all.length() <= 800 ? all.toString() : "";
    }

    private void cellLines(List<String> lines, int kinds) {
        List<Integer> cells = new ArrayList<>();
        for (int cell = 0; cell < wide * high; cell++) {
            cells.add(cell);
        }
        java.util.Collections.shuffle(cells, random);
        int at = 0;
        int land = up(Math.min(21, cells.size() / 3 + 1));
        for (; at < land; at++) {
            lines.add("land " + cells.get(at) % wide + " " + cells.get(at) / wide);
        }
        List<Integer> wet = cells.subList(at, cells.size());
        for (int i = up(Math.min(21, wet.size() + 1)) - 1; i >= 0; i--) {
            lines.add("reed " + wet.get(i) % wide + " " + wet.get(i) / wide);
        }
        java.util.Collections.shuffle(wet, random);
        for (int i = up(Math.min(4, wet.size() + 1)) - 1; i >= 0; i--) {
            lines.add("shore " + wet.get(i) % wide + " " + wet.get(i) / wide);
        }
        for (int i = up(often(80) ? 7 : 1) - 1; i >= 0; i--) {
            lines.add("cork " + "abcdef".charAt(i) + " " + one(wet));
        }
        for (int i = often(90) ? 1 + up(3) : 0; i > 0; i--) {
            lines.add("skater s" + "abcdef".charAt(i) + " " + one(wet));
        }
        for (int i = up(5); i > 0; i--) {
            lines.add("drop k" + "abcd".charAt(up(kinds)) + " " + one(wet) + " " + up(often(80) ? 12 : 100));
        }
        for (int i = up(4); i > 0; i--) {
            java.util.Collections.shuffle(wet, random);
            StringBuilder may = new StringBuilder("may m" + "abcd".charAt(i));
            for (int k = up(Math.min(4, wet.size() + 1)) - 1; k >= 0; k--) {
                may.append(" shore " + wet.get(k) % wide + " " + wet.get(k) / wide);
            }
            lines.add(may.toString());
        }
    }

    private String one(List<Integer> wet) {
        int cell = wet.get(up(wet.size()));
        return cell % wide + " " + cell / wide;
    }

    /** A law by the grammar: level 0 or, 1 and, 2 not, 3 a comparison, 4 sums, 5 products, 6 a leaf or brackets. */
    private String lawOf(int level, int size) {
        if (size <= 1 || level == 6) {
            return size <= 1 ? law(1) : "(" + lawOf(often(50) ? 3 : 0, size) + ")";
        }
        if (level == 2) {
            return often(20) ? "not " + lawOf(2, size - 1) : lawOf(3, size);
        }
        if (!often(level == 4 || level == 5 ? 50 : 25)) {
            return lawOf(level + 1, size);
        }
        String[] signs = {" or ", " and ", "", "< <= = <> >= >", "+ - + - -", "* / * *"};
        String[] some = level < 3 ? new String[] {signs[level]} : signs[level].split(" ");
        int left = 1 + up(size - 1);
        return lawOf(level == 3 ? 4 : level, left) + some[up(some.length)] + lawOf(level + 1, size - left);
    }

    private String law(int size) {
        if (size <= 1) {
            String[] leaves = {"rise", "here", "reeds", "way", "step", "rise", "" + up(10), "" + up(10000)};
            return leaves[up(leaves.length)];
        }
        if (often(12)) {
            return "not " + law(size - 1);
        }
        if (often(25)) {
            return "(" + law(size - 1) + ")";
        }
        String[] signs = {"+", "-", "*", "/", "<", "<=", "=", "<>", ">=", ">", " and ", " or ", " + ", "- ", "*", "*"};
        int left = 1 + up(size - 1);
        return law(left) + signs[up(signs.length)] + law(size - left);
    }

    /** A text with some places changed, so that most have a fault. */
    private String broken(String text) {
        String[] bits = {"(", ")", ";", "-", "<", "=", " ", "0", "9", "100", "a", "pond", "land 0 0;", "reed 1 0;",
            "shore 0 1;", "odds", "not ", " and ", "kind ka 1;", "cork a 0 0;", "loss 5;", "law 1;", "\t", "A", "\u00e9",
            "abcdefg", "may ma;", "drop ka 0 0 0;", "shore", "pond 3 3;", "skater sa 0 0;", "\n", "<>", "rise"};
        StringBuilder broken = new StringBuilder(text);
        for (int i = up(3); i >= 0; i--) {
            int at = up(broken.length() + 1);
            if (often(60)) {
                int line = broken.indexOf(";", at) + 1;
                broken.insert(often(50) ? at : line, bits[up(bits.length)]);
            } else if (often(50)) {
                broken.delete(at, Math.min(broken.length(), at + 1 + up(6)));
            } else if (at < broken.length()) {
                broken.setCharAt(at, (char) (often(50) ? '0' + up(10) : up(256)));
            }
        }
        return broken.length() > 800 ? broken.substring(0, 800) : broken.toString();
    }

    /** Mostly within the bound, at times just outside or far off. */
    private int arg(int bound) {
        if (often(96)) {
            return up(Math.max(bound, 1));
        }
        int[] off = {-1, bound, bound + 1, -2, Integer.MIN_VALUE, Integer.MAX_VALUE, 64, 256};
        return off[up(off.length)];
    }

    private int cell() {
        return arg(wide * high);
    }

    private int kind() {
        return arg(oracle.count(2));
    }

    private int cork() {
        return arg(oracle.count(3));
    }

    private int skater() {
        return arg(oracle.count(4));
    }

    private void call() {
        int[] a = new int[5];
        int which = up(40);
        switch (which) {
            case 0 -> two("far", a[0] = cell(), a[1] = cell(), 0, reader.far(a[0], a[1]), oracle.far(a[0], a[1]));
            case 1 -> two("weak", a[0] = cell(), a[1] = cell(), 0, reader.weak(a[0], a[1]), oracle.weak(a[0], a[1]));
            case 2, 3 -> two("rise", a[0] = cell(), a[1] = arg(often(80) ? 30 : 200), 0, reader.rise(a[0], a[1]),
                oracle.rise(a[0], a[1]));
            case 4 -> two("shows", a[0] = cork(), a[1] = arg(often(80) ? 30 : 200), 0, reader.shows(a[0], a[1]),
                oracle.shows(a[0], a[1]));
            case 5 -> two("most", a[0] = cell(), a[1] = arg(4), 0, reader.most(a[0], a[1]), oracle.most(a[0], a[1]));
            case 6 -> two("law", a[0] = skater(), a[1] = arg(5), 0, reader.law(a[0], a[1]), oracle.law(a[0], a[1]));
            case 7, 8 -> two("where", a[0] = skater(), a[1] = arg(often(80) ? 20 : 101), 0, reader.where(a[0], a[1]),
                oracle.where(a[0], a[1]));
            case 9 -> two("reaches", a[0] = skater(), a[1] = cell(), 0, reader.reaches(a[0], a[1]),
                oracle.reaches(a[0], a[1]));
            case 10 -> two("first", a[0] = cell(), 0, 0, reader.first(a[0]), oracle.first(a[0]));
            case 11 -> lie();
            case 12, 13 -> two("fall", a[0] = kind(), a[1] = cell(), a[2] = arg(often(80) ? 15 : 100),
                reader.fall(a[0], a[1], a[2]), oracle.fall(a[0], a[1], a[2]));
            case 14 -> two("cut", a[0] = cell(), 0, 0, reader.cut(a[0]) ? 1 : 0, oracle.cut(a[0]) ? 1 : 0);
            case 15 -> two("undo", 0, 0, 0, reader.undo(), oracle.undo());
            case 16, 17, 18 -> note();
            case 19 -> two("strike", a[0] = arg(oracle.count(9)), 0, 0, reader.strike(a[0]), oracle.strike(a[0]));
            case 20 -> two("known", a[0] = often(40) ? -1 : arg(oracle.count(9) + 1), 0, 0, reader.known(a[0]) ? 1 : 0,
                oracle.known(a[0]) ? 1 : 0);
            case 21 -> two("tales", 0, 0, 0, reader.tales(), oracle.tales());
            case 22 -> two("tale", a[0] = arg(oracle.tales() + 1), a[1] = arg(3), 0, reader.tale(a[0], a[1]),
                oracle.tale(a[0], a[1]));
            case 23 -> two("likeliest", a[0] = arg(3), 0, 0, reader.likeliest(a[0]), oracle.likeliest(a[0]));
            case 24 -> two("fits", 0, 0, 0, reader.fits(), oracle.fits());
            case 25, 26 -> apart();
            case 27 -> looks();
            case 28 -> still();
            case 29, 30 -> chance();
            case 31 -> two("keep", 0, 0, 0, reader.keep(), oracle.keep());
            case 32 -> two("back", 0, 0, 0, reader.back(), oracle.back());
            case 33 -> two("count", a[0] = arg(13), 0, 0, reader.count(a[0]), oracle.count(a[0]));
            case 34 -> two("cell", a[0] = cell(), a[1] = arg(4), 0, reader.cell(a[0], a[1]), oracle.cell(a[0], a[1]));
            case 35 -> two("drop", a[0] = arg(oracle.count(5)), a[1] = arg(3), 0, reader.drop(a[0], a[1]),
                oracle.drop(a[0], a[1]));
            case 36 -> look();
            case 37 -> named();
            default -> two("count", a[0] = 5 + up(8), 0, 0, reader.count(a[0]), oracle.count(a[0]));
        }
    }

    private void two(String name, int a, int b, int c, long got, long want) {
        CHECK.due(name + "(" + a + ", " + b + ", " + c + ")", got, want);
    }

    private void lie() {
        int s = skater();
        int k = kind();
        int n = arg(often(90) ? 14 : 61);
        int c = often(80) && s >= 0 && s < oracle.count(4) && n >= 0 && n <= 60 ? oracle.where(s, often(60) ? n : up(n + 1)) : cell();
        int w = arg(2);
        String call = "lie(" + s + ", " + c + ", " + k + ", " + n + ", " + w + ")";
        CHECK.due(call, reader.lie(s, c, k, n, w), oracle.lie(s, c, k, n, w));
    }

    /** Mostly what is shown, or what one drop alone would show, so that some notes are so. */
    private void note() {
        int c = cork();
        int s = arg(often(90) ? 25 : 200);
        int r = often(60) ? Math.max(-9999, oracle.shows(c, s)) : often(50) ? 0 : often(90) ? up(20) : arg(10000);
        CHECK.due("note(" + c + ", " + s + ", " + r + ")", reader.note(c, s, r), oracle.note(c, s, r));
    }

    private void apart() {
        int kinds = often(90) ? 1 + up((1 << oracle.count(2))) : up(70) - 2;
        int n = often(90) ? 1 + up(4) : arg(8);
        long cells = often(3) ? random.nextLong() : 0;
        for (int i = 0; i < 6; i++) {
            cells |= (long) (up(wide * high) & 255) << 8 * i;
        }
        String call = "apart(" + kinds + ", " + n + ", " + cells + ")";
        CHECK.due(call, reader.apart(kinds, n, cells), oracle.apart(kinds, n, cells));
    }

    private void looks() {
        int k = kind();
        int l = kind();
        int c = cell();
        int w = arg(2);
        CHECK.due("looks(" + k + ", " + l + ", " + c + ", " + w + ")", reader.looks(k, l, c, w),
            oracle.looks(k, l, c, w));
    }

    private void still() {
        int k = kind();
        int c = cell();
        int o = kind();
        int t = cell();
        int to = arg(often(70) ? 10 : 61);
        CHECK.due("still(" + k + ", " + c + ", " + o + ", " + t + ", " + to + ")", reader.still(k, c, o, t, to),
            oracle.still(k, c, o, t, to));
    }

    private void chance() {
        int s = often(95) ? random.nextInt() & Integer.MAX_VALUE : random.nextInt();
        int k = kind();
        int n = arg(10);
        int c = cork();
        int t = arg(often(80) ? 20 : 41);
        CHECK.due("chance(" + s + ", " + k + ", " + n + ", " + c + ", " + t + ")", reader.chance(s, k, n, c, t),
            oracle.chance(s, k, n, c, t));
    }

    private void look() {
        int k = kind();
        int w = arg(2);
        long got;
        try {
            got = reader.look(k, w);
        } catch (IndexOutOfBoundsException e) {
            got = INDEX;
        } catch (NoSuchElementException e) {
            got = ELEMENT;
        }
        long want;
        try {
            want = oracle.look(k, w);
        } catch (IndexOutOfBoundsException e) {
            want = INDEX;
        } catch (NoSuchElementException e) {
            want = ELEMENT;
        }
        CHECK.due("look(" + k + ", " + w + ")", got, want);
    }

    private void named() {
        String[] prefixes = {"k", "", "s", "m"};
        int w = arg(4);
        String name = often(80) ? prefixes[w & 3] + "abcd".charAt(up(4)) : word();
        int letters = often(95) ? Tape.letters(name) : random.nextInt();
        CHECK.due("named(" + w + ", " + name + ")", reader.named(w, letters), oracle.named(w, letters));
    }
}
