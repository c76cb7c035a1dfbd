import java.math.BigInteger;
import java.nio.charset.StandardCharsets;
import java.util.ArrayDeque;
import java.util.ArrayList;
import java.util.Arrays;
import java.util.HashSet;
import java.util.LinkedHashMap;
import java.util.List;
import java.util.Map;
import java.util.NoSuchElementException;
import java.util.Set;
import java.util.TreeSet;

/**
 * The document once more, told as slowly and plainly as can be and without a look at PondReader: recursion along the
 * grammar, all ways of all lengths, sets and maps, nothing kept that could be worked out anew.
 */
final class Oracle {
    static final int NONE = -1;
    private static final BigInteger LIMIT = BigInteger.TEN.pow(12);

    static final class Fault extends RuntimeException {
        private static final long serialVersionUID = 1L;
        final int number;
        final int place;

        Fault(int number, int place) {
            this.number = number;
            this.place = place;
        }
    }

    private static final class LawError extends RuntimeException {
        private static final long serialVersionUID = 1L;
    }

    record Drop(int kind, int cell, int step) {
    }

    record Note(int cork, int step, int rise, int strikes) {
    }

    record State(List<Drop> drops, Set<Integer> reeds) {
    }

    record Token(char type, String text, int place) {
    }

    /** A part of a law: sign with its sides, or a leaf without. */
    record Knot(String sign, Knot left, Knot right) {
        BigInteger value(Map<String, Integer> names) {
            BigInteger l = left == null ? null : left.value(names);
            BigInteger r = right == null ? null : right.value(names);
            BigInteger v = worked(names, l, r);
            if (v.abs().compareTo(LIMIT) > 0) {
                throw new LawError();
            }
            return v;
        }

        private BigInteger worked(Map<String, Integer> names, BigInteger l, BigInteger r) {
            switch (sign) {
                case "+":
                    return l.add(r);
                case "-":
                    return l.subtract(r);
                case "*":
                    return l.multiply(r);
                case "/":
                    if (r.signum() == 0) {
                        throw new LawError();
                    }
                    return l.divide(r);
                case "<":
                    return truth(l.compareTo(r) < 0);
                case "<=":
                    return truth(l.compareTo(r) <= 0);
                case "=":
                    return truth(l.compareTo(r) == 0);
                case "<>":
                    return truth(l.compareTo(r) != 0);
                case ">=":
                    return truth(l.compareTo(r) >= 0);
                case ">":
                    return truth(l.compareTo(r) > 0);
                case "and":
                    return truth(l.signum() != 0 && r.signum() != 0);
                case "or":
                    return truth(l.signum() != 0 || r.signum() != 0);
                case "not":
                    return truth(l.signum() == 0);
                default:
                    return names.containsKey(sign) ? BigInteger.valueOf(names.get(sign)) : new BigInteger(sign);
            }
        }

        private static BigInteger truth(boolean so) {
            return so ? BigInteger.ONE : BigInteger.ZERO;
        }
    }

    /** What a text tells. */
    static final class Told {
        int wide = 4;
        int high = 4;
        final Set<Integer> land = new TreeSet<>();
        final Set<Integer> reeds = new TreeSet<>();
        final List<Integer> shores = new ArrayList<>();
        final Map<String, List<Integer>> kinds = new LinkedHashMap<>();
        final List<Integer> odds = new ArrayList<>();
        final Map<String, Integer> corks = new LinkedHashMap<>();
        final Map<String, Integer> skaters = new LinkedHashMap<>();
        final List<Drop> drops = new ArrayList<>();
        final Map<String, List<Integer>> mays = new LinkedHashMap<>();
        int loss = 10;
        int thick = 30;
        int sent = 50;
        Knot law;
        int knots;
        int lines;
    }

    /** Reads a text by the grammar, one method a rule. */
    static final class Reading {
        private static final Set<String> LANGUAGE = Set.of("pond", "land", "reed", "shore", "kind", "odds", "cork",
            "skater", "drop", "loss", "thick", "sent", "law", "may", "or", "and", "not", "rise", "here", "reeds", "way",
            "step");
        private final List<Token> tokens = new ArrayList<>();
        private final Told told = new Told();
        private final Set<String> once = new HashSet<>();
        private boolean cellLine;
        private int at;
        private int open;

        static Told read(byte[] bytes) {
            Reading reading = new Reading();
            reading.split(new String(bytes, StandardCharsets.ISO_8859_1));
            while (reading.now().type != 'e') {
                reading.line();
                reading.sign(";");
                reading.told.lines++;
            }
            return reading.told;
        }

        private void split(String text) {
            int i = 0;
            while (i < text.length()) {
                int end = i + 1;
                char c = text.charAt(i);
                if (c == '\n' || c == ' ') {
                    i++;
                    continue;
                }
                char type = 's';
                if (c >= 'a' && c <= 'z') {
                    while (end < text.length() && text.charAt(end) >= 'a' && text.charAt(end) <= 'z') {
                        end++;
                    }
                    type = end - i > 6 ? 'x' : LANGUAGE.contains(text.substring(i, end)) ? 'l' : 'w';
                } else if (c >= '0' && c <= '9') {
                    while (end < text.length() && text.charAt(end) >= '0' && text.charAt(end) <= '9') {
                        end++;
                    }
                    type = 'n';
                } else if (List.of("<=", "<>", ">=").contains(text.substring(i, Math.min(i + 2, text.length())))) {
                    end = i + 2;
                }
                tokens.add(new Token(type, text.substring(i, end), i));
                i = end;
            }
            tokens.add(new Token('e', "", text.length()));
        }

        private Token now() {
            return tokens.get(at);
        }

        private boolean is(String text) {
            return now().type != 'w' && now().text.equals(text);
        }

        private Fault fault(int number) {
            return new Fault(number, now().place);
        }

        private void sign(String text) {
            if (!is(text)) {
                throw fault(1);
            }
            at++;
        }

        private int number(int least, int greatest) {
            if (now().type != 'n') {
                throw fault(1);
            }
            BigInteger value = new BigInteger(now().text);
            if (value.compareTo(BigInteger.valueOf(least)) < 0 || value.compareTo(BigInteger.valueOf(greatest)) > 0) {
                throw fault(2);
            }
            at++;
            return value.intValue();
        }

        private int cell(Set<Integer> not) {
            int x = number(0, told.wide - 1);
            int place = now().place;
            int y = number(0, told.high - 1);
            int cell = y * told.wide + x;
            if (not.contains(cell)) {
                throw new Fault(5, place);
            }
            return cell;
        }

        private Set<Integer> with(Set<Integer> some, Iterable<Integer> more) {
            Set<Integer> all = new HashSet<>(some);
            more.forEach(all::add);
            return all;
        }

        private String name(Set<String> taken) {
            if (now().type != 'w') {
                throw fault(1);
            }
            if (taken.contains(now().text)) {
                throw fault(3);
            }
            return tokens.get(at++).text;
        }

        private void atMost(int size, int limit) {
            if (size == limit) {
                throw fault(2);
            }
        }

        private void line() {
            String word = now().type == 'l' ? now().text : "";
            if (List.of("land", "reed", "shore", "cork", "skater", "drop", "may").contains(word)) {
                cellLine(word);
                return;
            }
            if (!List.of("pond", "loss", "thick", "sent", "law", "kind").contains(word)) {
                throw fault(1);
            }
            if (!word.equals("kind") && !once.add(word)) {
                throw fault(3);
            }
            if (word.equals("pond") && cellLine) {
                throw fault(4);
            }
            if (word.equals("kind")) {
                atMost(told.kinds.size(), 4);
            }
            at++;
            switch (word) {
                case "pond" -> {
                    int wide = number(1, 8);
                    told.high = number(1, 6);
                    told.wide = wide;
                }
                case "loss" -> told.loss = number(0, 50);
                case "thick" -> told.thick = number(0, 99);
                case "sent" -> told.sent = number(0, 99);
                case "law" -> told.law = e();
                default -> kind();
            }
        }

        private void kind() {
            String name = name(told.kinds.keySet());
            List<Integer> rises = new ArrayList<>();
            do {
                if (is("-") || now().type == 'n') {
                    atMost(rises.size(), 6);
                }
                boolean minus = is("-");
                at += minus ? 1 : 0;
                int rise = number(0, 99);
                rises.add(minus ? -rise : rise);
            } while (is("-") || now().type == 'n');
            int odds = 1;
            if (is("odds")) {
                at++;
                odds = number(1, 99);
            }
            told.kinds.put(name, rises);
            told.odds.add(odds);
        }

        private void cellLine(String word) {
            cellLine = true;
            switch (word) {
                case "land" -> {
                    atMost(told.land.size(), 20);
                    at++;
                    Set<Integer> not = with(with(told.land, told.reeds), told.shores);
                    not = with(with(not, told.corks.values()), told.skaters.values());
                    for (Drop drop : told.drops) {
                        not.add(drop.cell);
                    }
                    for (List<Integer> shores : told.mays.values()) {
                        not.addAll(shores);
                    }
                    told.land.add(cell(not));
                }
                case "reed" -> {
                    atMost(told.reeds.size(), 20);
                    at++;
                    told.reeds.add(cell(with(told.land, told.reeds)));
                }
                case "shore" -> {
                    atMost(told.shores.size(), 3);
                    at++;
                    told.shores.add(cell(with(told.land, told.shores)));
                }
                case "cork" -> {
                    atMost(told.corks.size(), 6);
                    at++;
                    told.corks.put(name(told.corks.keySet()), cell(told.land));
                }
                case "skater" -> {
                    atMost(told.skaters.size(), 3);
                    at++;
                    told.skaters.put(name(told.skaters.keySet()), cell(told.land));
                }
                case "drop" -> {
                    atMost(told.drops.size(), 8);
                    at++;
                    drop();
                }
                default -> {
                    atMost(told.mays.size(), 3);
                    at++;
                    may();
                }
            }
        }

        private void drop() {
            Token w = now();
            if (w.type == 'w' && !told.kinds.containsKey(w.text)) {
                throw fault(4);
            }
            name(Set.of());
            int cell = cell(told.land);
            told.drops.add(new Drop(new ArrayList<>(told.kinds.keySet()).indexOf(w.text), cell, number(0, 99)));
        }

        private void may() {
            String name = name(told.mays.keySet());
            List<Integer> shores = new ArrayList<>();
            while (is("shore")) {
                atMost(shores.size(), 3);
                at++;
                shores.add(cell(with(told.land, shores)));
            }
            told.mays.put(name, shores);
        }

        private String knot() {
            atMost(told.knots, 64);
            told.knots++;
            return tokens.get(at++).text;
        }

        private boolean isOneOf(String... texts) {
            return Arrays.stream(texts).anyMatch(this::is);
        }

        private Knot e() {
            Knot left = a();
            while (is("or")) {
                left = new Knot(knot(), left, a());
            }
            return left;
        }

        private Knot a() {
            Knot left = b();
            while (is("and")) {
                left = new Knot(knot(), left, b());
            }
            return left;
        }

        private Knot b() {
            return is("not") ? new Knot(knot(), b(), null) : c();
        }

        private Knot c() {
            Knot left = s();
            return isOneOf("<", "<=", "=", "<>", ">=", ">") ? new Knot(knot(), left, s()) : left;
        }

        private Knot s() {
            Knot left = t();
            while (isOneOf("+", "-")) {
                left = new Knot(knot(), left, t());
            }
            return left;
        }

        private Knot t() {
            Knot left = p();
            while (isOneOf("*", "/")) {
                left = new Knot(knot(), left, p());
            }
            return left;
        }

        private Knot p() {
            if (is("(")) {
                atMost(open, 8);
                open++;
                at++;
                Knot inside = e();
                sign(")");
                open--;
                return inside;
            }
            if (isOneOf("rise", "here", "reeds", "way", "step")) {
                return new Knot(knot(), null, null);
            }
            number(0, 9999);
            at--;
            return new Knot(knot(), null, null);
        }
    }

    private byte[] tape = new byte[0];
    private Told told = new Told();
    private int faultNumber;
    private int faultPlace = NONE;
    private State state = new State(List.of(), Set.of());
    private State image;
    private final ArrayDeque<State> undo = new ArrayDeque<>();
    private final List<Note> notes = new ArrayList<>();
    private int knownBy = -1;

    int feed(int a, int b, int c, int d, int e) {
        if (tape.length + 20 > 800) {
            return NONE;
        }
        int start = tape.length;
        tape = Arrays.copyOf(tape, start + 20);
        int[] numbers = {a, b, c, d, e};
        for (int i = 0; i < 20; i++) {
            tape[start + i] = (byte) (numbers[i / 4] >> 8 * (3 - i % 4));
        }
        return tape.length;
    }

    int text(int n) {
        if (n < 0 || n > tape.length) {
            return -2;
        }
        byte[] bytes = Arrays.copyOf(tape, n);
        tape = new byte[0];
        try {
            told = Reading.read(bytes);
        } catch (Fault fault) {
            faultNumber = fault.number;
            faultPlace = fault.place;
            return NONE;
        }
        faultNumber = 0;
        faultPlace = NONE;
        state = new State(List.copyOf(told.drops), Set.copyOf(told.reeds));
        image = null;
        undo.clear();
        notes.clear();
        knownBy = -1;
        return told.lines;
    }

    int fault(int what) {
        return what == 0 ? faultNumber : what == 1 ? faultPlace : NONE;
    }

    int named(int what, int letters) {
        List<Set<String>> all = List.of(told.kinds.keySet(), told.corks.keySet(), told.skaters.keySet(),
            told.mays.keySet());
        if (what < 0 || what > 3) {
            return NONE;
        }
        int i = 0;
        for (String name : all.get(what)) {
            if (Tape.letters(name) == letters) {
                return i;
            }
            i++;
        }
        return NONE;
    }

    int look(int kind, int what) {
        if (!in(kind, told.kinds.size())) {
            throw new IndexOutOfBoundsException();
        }
        if (!in(what, 2)) {
            throw new NoSuchElementException();
        }
        return what == 0 ? rises(kind).size() : told.odds.get(kind);
    }

    private static boolean in(int i, int size) {
        return i >= 0 && i < size;
    }

    private List<Integer> rises(int kind) {
        return new ArrayList<>(told.kinds.values()).get(kind);
    }

    private int corkCell(int cork) {
        return new ArrayList<>(told.corks.values()).get(cork);
    }

    private int skaterCell(int skater) {
        return new ArrayList<>(told.skaters.values()).get(skater);
    }

    private int cells() {
        return told.wide * told.high;
    }

    private boolean wet(int cell) {
        return in(cell, cells()) && !told.land.contains(cell);
    }

    int cell(int cell, int what) {
        if (!in(cell, cells()) || !in(what, 4)) {
            return NONE;
        }
        if (what == 0) {
            return told.land.contains(cell) ? 2 : state.reeds.contains(cell) ? 1 : 0;
        }
        if (what == 1) {
            return told.shores.contains(cell) ? 1 : 0;
        }
        if (what == 2) {
            return new ArrayList<>(told.corks.values()).indexOf(cell);
        }
        return (int) state.drops.stream().filter(drop -> drop.cell == cell).count();
    }

    int drop(int drop, int what) {
        if (!in(drop, state.drops.size()) || !in(what, 3)) {
            return NONE;
        }
        Drop d = state.drops.get(drop);
        return new int[] {d.kind, d.cell, d.step}[what];
    }

    private int toward(int cell, int way) {
        int x = cell % told.wide + new int[] {0, 0, 1, 0, -1}[way];
        int y = cell / told.wide + new int[] {0, -1, 0, 1, 0}[way];
        int there = y * told.wide + x;
        return in(x, told.wide) && in(y, told.high) && wet(there) ? there : NONE;
    }

    private Set<Integer> waysReeds;
    private Told waysTold;
    private int[][] farAll;
    private int[][] weakAll;

    /** The least pairs of steps and weakness, bettered by every cell between as long as one gets better. */
    private void ways() {
        if (waysTold == told && waysReeds != null && waysReeds.equals(state.reeds)) {
            return;
        }
        waysTold = told;
        waysReeds = state.reeds;
        int n = cells();
        farAll = new int[n][n];
        weakAll = new int[n][n];
        for (int i = 0; i < n; i++) {
            Arrays.fill(farAll[i], 1000);
            for (int way = 0; way < 5 && wet(i); way++) {
                int j = toward(i, way);
                if (j >= 0) {
                    farAll[i][j] = way == 0 ? 0 : 1;
                    weakAll[i][j] = way == 0 ? 0 : told.loss + (state.reeds.contains(j) ? told.thick : 0);
                }
            }
        }
        boolean better = true;
        while (better) {
            better = false;
            for (int k = 0; k < n; k++) {
                for (int i = 0; i < n; i++) {
                    for (int j = 0; j < n; j++) {
                        int f = farAll[i][k] + farAll[k][j];
                        int w = weakAll[i][k] + weakAll[k][j];
                        if (f < farAll[i][j] || f < 1000 && f == farAll[i][j] && w < weakAll[i][j]) {
                            farAll[i][j] = f;
                            weakAll[i][j] = w;
                            better = true;
                        }
                    }
                }
            }
        }
    }

    int far(int from, int to) {
        if (!wet(from) || !wet(to)) {
            return NONE;
        }
        ways();
        return farAll[from][to] >= 1000 ? -2 : farAll[from][to];
    }

    int weak(int from, int to) {
        int far = far(from, to);
        return far < 0 ? far : weakAll[from][to];
    }

    private int part(int rise, int from, int to) {
        return (int) Math.signum(rise) * (Math.abs(rise) * Math.max(0, 100 - weak(from, to)) / 100);
    }

    private int riseOf(List<Drop> drops, List<Integer> shores, int cell, int step) {
        int sum = 0;
        for (Drop drop : drops) {
            List<Integer> rises = rises(drop.kind);
            for (int k = 0; k < rises.size(); k++) {
                int far = far(drop.cell, cell);
                if (far >= 0 && drop.step + far + k == step) {
                    sum += part(rises.get(k), drop.cell, cell);
                }
                for (int shore : shores) {
                    int there = far(drop.cell, shore);
                    int back = far(shore, cell);
                    if (there >= 0 && back >= 0 && drop.step + there + back + k == step) {
                        int come = part(rises.get(k), drop.cell, shore);
                        int sent = (int) Math.signum(come) * (Math.abs(come) * told.sent / 100);
                        sum += part(sent, shore, cell);
                    }
                }
            }
        }
        return sum;
    }

    int rise(int cell, int step) {
        return wet(cell) && in(step, 200) ? riseOf(state.drops, told.shores, cell, step) : Integer.MIN_VALUE;
    }

    int shows(int cork, int step) {
        return in(cork, told.corks.size()) ? rise(corkCell(cork), step) : Integer.MIN_VALUE;
    }

    int most(int cell, int what) {
        if (!wet(cell) || !in(what, 4)) {
            return Integer.MIN_VALUE;
        }
        int[] all = new int[200];
        for (int step = 0; step < 200; step++) {
            all[step] = rise(cell, step);
        }
        int best = what < 2 ? Arrays.stream(all).max().getAsInt() : Arrays.stream(all).min().getAsInt();
        int step = 0;
        while (all[step] != best) {
            step++;
        }
        return what % 2 == 0 ? best : step;
    }

    private long e(List<Drop> drops, int here, int way, int step) {
        int there = toward(here, way);
        int rise = riseOf(drops, told.shores, there, step);
        if (told.law == null) {
            return rise;
        }
        Map<String, Integer> names = Map.of("rise", rise, "here", riseOf(drops, told.shores, here, step), "reeds",
            state.reeds.contains(there) ? 1 : 0, "way", way, "step", step);
        return told.law.value(names).longValueExact();
    }

    long law(int skater, int way) {
        if (!in(skater, told.skaters.size()) || !in(way, 5) || told.law == null) {
            return Long.MIN_VALUE;
        }
        if (toward(skaterCell(skater), way) < 0) {
            return Long.MIN_VALUE;
        }
        try {
            return e(state.drops, skaterCell(skater), way, 0);
        } catch (LawError error) {
            return Long.MIN_VALUE;
        }
    }

    private List<Integer> path(List<Drop> drops, int skater, int n) {
        List<Integer> path = new ArrayList<>(List.of(skaterCell(skater)));
        for (int step = 0; step < n; step++) {
            int here = path.get(step);
            long best = Long.MIN_VALUE;
            int go = NONE;
            for (int way = 0; way < 5; way++) {
                if (toward(here, way) >= 0) {
                    long value = 0;
                    try {
                        value = e(drops, here, way, step);
                    } catch (LawError error) {
                        value = 0;
                    }
                    if (value > best) {
                        best = value;
                        go = toward(here, way);
                    }
                }
            }
            path.add(go);
        }
        return path;
    }

    int where(int skater, int n) {
        return in(skater, told.skaters.size()) && in(n, 101) ? path(state.drops, skater, n).get(n) : NONE;
    }

    int reaches(int skater, int cell) {
        if (!in(skater, told.skaters.size()) || !in(cell, cells())) {
            return NONE;
        }
        int n = path(state.drops, skater, 100).indexOf(cell);
        return n < 0 ? -2 : n;
    }

    int first(int cell) {
        if (!in(cell, cells())) {
            return NONE;
        }
        for (int n = 0; n <= 100; n++) {
            for (int skater = 0; skater < told.skaters.size(); skater++) {
                if (reaches(skater, cell) == n) {
                    return skater;
                }
            }
        }
        return -2;
    }

    int lie(int skater, int cell, int kind, int n, int what) {
        if (!in(skater, told.skaters.size()) || !in(cell, cells()) || !in(kind, told.kinds.size()) || !in(n, 61)
            || !in(what, 2)) {
            return NONE;
        }
        if (!path(state.drops, skater, n).contains(cell)) {
            return -3;
        }
        for (int step = 0; step <= 15; step++) {
            for (int from = 0; from < cells(); from++) {
                if (wet(from)) {
                    List<Drop> more = new ArrayList<>(state.drops);
                    more.add(new Drop(kind, from, step));
                    if (!path(more, skater, n).contains(cell)) {
                        return what == 0 ? step : from;
                    }
                }
            }
        }
        return -2;
    }

    private void change(State next) {
        undo.addLast(state);
        if (undo.size() > 20) {
            undo.removeFirst();
        }
        state = next;
    }

    int fall(int kind, int cell, int step) {
        if (!in(kind, told.kinds.size()) || !wet(cell) || !in(step, 100) || state.drops.size() >= 16) {
            return NONE;
        }
        List<Drop> drops = new ArrayList<>(state.drops);
        drops.add(new Drop(kind, cell, step));
        change(new State(drops, state.reeds));
        return drops.size() - 1;
    }

    boolean cut(int cell) {
        if (!state.reeds.contains(cell)) {
            return false;
        }
        Set<Integer> reeds = new TreeSet<>(state.reeds);
        reeds.remove(cell);
        change(new State(state.drops, reeds));
        return true;
    }

    int undo() {
        if (undo.isEmpty()) {
            return NONE;
        }
        state = undo.removeLast();
        return undo.size();
    }

    int note(int cork, int step, int rise) {
        if (!in(cork, told.corks.size()) || !in(step, 200) || Math.abs((long) rise) > 9999 || notes.size() == 32) {
            return NONE;
        }
        notes.add(new Note(cork, step, rise, -1));
        return notes.size() - 1;
    }

    int strike(int note) {
        if (!in(note, notes.size()) || notes.size() == 32) {
            return NONE;
        }
        notes.add(new Note(-1, -1, -1, note));
        return notes.size() - 1;
    }

    boolean known(int n) {
        if (n < -1 || n > notes.size()) {
            return false;
        }
        knownBy = n;
        return true;
    }

    private int by() {
        return knownBy < 0 ? notes.size() : knownBy;
    }

    private boolean struck(int note) {
        for (int i = note + 1; i < by(); i++) {
            if (notes.get(i).strikes == note && !struck(i)) {
                return true;
            }
        }
        return false;
    }

    private boolean so(List<Drop> drops, List<Integer> shores) {
        for (int i = 0; i < by(); i++) {
            Note note = notes.get(i);
            if (note.strikes < 0 && !struck(i)
                && riseOf(drops, shores, corkCell(note.cork), note.step) != note.rise) {
                return false;
            }
        }
        return true;
    }

    private List<Drop> allTales() {
        List<Drop> tales = new ArrayList<>();
        for (int kind = 0; kind < told.kinds.size(); kind++) {
            for (int cell = 0; cell < cells(); cell++) {
                for (int step = 0; step <= 20; step++) {
                    if (wet(cell) && so(List.of(new Drop(kind, cell, step)), told.shores)) {
                        tales.add(new Drop(kind, cell, step));
                    }
                }
            }
        }
        return tales;
    }

    int tales() {
        return allTales().size();
    }

    private static int part(Drop drop, int what) {
        return what == 0 ? drop.kind : what == 1 ? drop.cell : drop.step;
    }

    int tale(int k, int what) {
        if (k < 0 || !in(what, 3)) {
            return NONE;
        }
        List<Drop> tales = allTales();
        return k < tales.size() ? part(tales.get(k), what) : -2;
    }

    int likeliest(int what) {
        if (!in(what, 3)) {
            return NONE;
        }
        Drop best = null;
        for (Drop drop : allTales()) {
            if (best == null || told.odds.get(drop.kind) > told.odds.get(best.kind)) {
                best = drop;
            }
        }
        return best == null ? -2 : part(best, what);
    }

    int fits() {
        List<List<Integer>> all = new ArrayList<>(told.mays.values());
        all.add(told.shores);
        int bits = 0;
        for (int i = 0; i < all.size(); i++) {
            bits += so(state.drops, all.get(i)) ? 1 << i : 0;
        }
        return bits;
    }

    private List<Integer> shown(Drop drop, int corks) {
        List<Integer> shown = new ArrayList<>();
        for (int cork = 0; cork < told.corks.size(); cork++) {
            for (int step = 0; step <= 30 && (corks >> cork & 1) == 1; step++) {
                shown.add(riseOf(List.of(drop), told.shores, corkCell(cork), step));
            }
        }
        return shown;
    }

    int apart(int kinds, int n, long cells) {
        if (kinds < 1 || kinds >= 1 << told.kinds.size() || n < 1 || n > 6) {
            return NONE;
        }
        Set<Integer> some = new TreeSet<>();
        for (int i = 0; i < n; i++) {
            int cell = (int) (cells >> 8 * i & 255);
            if (!wet(cell) || !some.add(cell)) {
                return NONE;
            }
        }
        int best = -2;
        for (int corks = (1 << told.corks.size()) - 1; corks >= 0; corks--) {
            Set<List<Integer>> all = new HashSet<>();
            int drops = 0;
            for (int cell : some) {
                for (int kind = 0; kind < told.kinds.size(); kind++) {
                    if ((kinds >> kind & 1) == 1) {
                        drops++;
                        all.add(shown(new Drop(kind, cell, 0), corks));
                    }
                }
            }
            if (all.size() == drops && (best < 0 || Integer.bitCount(corks) <= Integer.bitCount(best))) {
                best = corks;
            }
        }
        return best;
    }

    int looks(int kind, int like, int cell, int what) {
        if (!in(kind, told.kinds.size()) || !in(like, told.kinds.size()) || !wet(cell) || !in(what, 2)) {
            return NONE;
        }
        List<Integer> other = shown(new Drop(like, cell, 0), 63);
        int best = NONE;
        int least = Integer.MAX_VALUE;
        for (int from = cells() - 1; from >= 0; from--) {
            if (wet(from)) {
                List<Integer> mine = shown(new Drop(kind, from, 0), 63);
                int sum = 0;
                for (int i = 0; i < mine.size(); i++) {
                    sum += Math.abs(mine.get(i) - other.get(i));
                }
                if (sum <= least) {
                    least = sum;
                    best = from;
                }
            }
        }
        return what == 0 ? best : least;
    }

    long still(int kind, int cell, int other, int there, int to) {
        if (!in(kind, told.kinds.size()) || !in(other, told.kinds.size()) || !wet(cell) || !wet(there)
            || !in(to, 61)) {
            return NONE;
        }
        List<Drop> two = List.of(new Drop(kind, cell, 0), new Drop(other, there, 0));
        long bits = 0;
        for (int at = 0; at < cells(); at++) {
            boolean still = wet(at);
            for (int step = 0; still && step <= to; step++) {
                still = riseOf(two, told.shores, at, step) == 0;
            }
            bits += still ? 1L << at : 0;
        }
        return bits;
    }

    int chance(int seed, int kind, int n, int cork, int step) {
        if (seed < 0 || !in(kind, told.kinds.size()) || n < 1 || n > 9 || !in(cork, told.corks.size())
            || !in(step, 41)) {
            return NONE;
        }
        BigInteger last = BigInteger.valueOf(seed);
        int count = 0;
        for (int draw = 0; draw < 10; draw++) {
            List<Drop> drops = new ArrayList<>();
            for (int i = 0; i < n; i++) {
                last = following(last);
                int cell = last.shiftRight(16).intValue() % cells();
                if (wet(cell)) {
                    last = following(last);
                    drops.add(new Drop(kind, cell, last.shiftRight(16).intValue() % 16));
                }
            }
            count += riseOf(drops, told.shores, corkCell(cork), step) > 0 ? 1 : 0;
        }
        return count;
    }

    private static BigInteger following(BigInteger last) {
        return last.multiply(BigInteger.valueOf(1103515245)).add(BigInteger.valueOf(12345))
            .mod(BigInteger.ONE.shiftLeft(31));
    }

    int keep() {
        image = state;
        return state.drops.size();
    }

    int back() {
        if (image == null) {
            return NONE;
        }
        state = image;
        undo.clear();
        return state.drops.size();
    }

    int count(int what) {
        int[] all = {told.wide, told.high, told.kinds.size(), told.corks.size(), told.skaters.size(),
            state.drops.size(), told.shores.size(), told.mays.size(), told.knots, notes.size(), by(), undo.size(),
            state.reeds.size()};
        return in(what, 13) ? all[what] : NONE;
    }
}
