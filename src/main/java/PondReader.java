import java.util.NoSuchElementException;

/** A pond that is read by its ripples; the document's promises say what each call answers. */
public final class PondReader {
    public static final int NONE = -1;

    private static final int NOT_SO = -2;
    private static final int NOT_THERE = -3;
    private static final int TAPE_BYTES = 800;
    private static final int FEED_BYTES = 20;

    private static final int MOST_CELLS = 48;
    private static final int MOST_WIDE = 8;
    private static final int MOST_HIGH = 6;
    private static final int MOST_LAND = 20;
    private static final int MOST_REEDS = 20;
    private static final int MOST_SHORES = 3;
    private static final int MOST_KINDS = 4;
    private static final int MOST_RISES = 6;
    private static final int MOST_CORKS = 6;
    private static final int MOST_SKATERS = 3;
    private static final int MOST_MAYS = 3;
    private static final int TOLD_DROPS = 8;
    private static final int MOST_DROPS = 16;
    private static final int MOST_UNDO = 20;
    private static final int MOST_NOTES = 32;
    private static final int MOST_KNOTS = 64;
    private static final int MOST_OPEN = 8;
    private static final int LETTERS = 6;
    private static final int LETTER_BITS = 5;

    private static final int WAYS = 5;
    private static final int STEPS = 200;
    private static final int DROP_STEPS = 100;
    private static final int LAST_RUN = 100;
    private static final int LAST_LIE = 60;
    private static final int LAST_LIE_DROP = 15;
    private static final int LAST_TALE_DROP = 20;
    private static final int SHOWN_STEPS = 31;
    private static final int LAST_STILL = 60;
    private static final int LAST_CHANCE = 40;
    private static final int MOST_RISE_NOTED = 9999;
    private static final int APART_CELLS = 6;
    private static final int APART_DROPS = MOST_KINDS * APART_CELLS;

    private static final int CANT_STAND = 1;
    private static final int TOO_MUCH = 2;
    private static final int TOLD_ALREADY = 3;
    private static final int NOT_AHEAD = 4;
    private static final int WRONG_CELL = 5;

    private static final int KNOT_NUMBER = 0;
    private static final int KNOT_RISE = 1;
    private static final int KNOT_HERE = 2;
    private static final int KNOT_REEDS = 3;
    private static final int KNOT_WAY = 4;
    private static final int KNOT_STEP = 5;
    private static final int KNOT_NOT = 6;
    private static final int KNOT_OR = 7;
    private static final int KNOT_AND = 8;
    private static final int KNOT_LESS = 9;
    private static final int KNOT_LESS_EQUAL = 10;
    private static final int KNOT_EQUAL = 11;
    private static final int KNOT_UNEQUAL = 12;
    private static final int KNOT_MORE_EQUAL = 13;
    private static final int KNOT_MORE = 14;
    private static final int KNOT_PLUS = 15;
    private static final int KNOT_MINUS = 16;
    private static final int KNOT_TIMES = 17;
    private static final int KNOT_OVER = 18;
    private static final int SIGN_OPEN = 19;
    private static final int SIGN_CLOSE = 20;
    private static final int SIGN_LINE_END = 21;
    private static final int NO_KNOT = -1;

    private static final int RANK_OPEN = 0;
    private static final int RANK_OR = 1;
    private static final int RANK_AND = 2;
    private static final int RANK_NOT = 3;
    private static final int RANK_COMPARISON = 4;
    private static final int RANK_SUM = 5;
    private static final int RANK_PRODUCT = 6;

    private static final long ERROR = Long.MIN_VALUE;

    private final byte[] tape = new byte[TAPE_BYTES];
    private int tapeLength;
    private Pond spare = new Pond();
    private final TextReader reader = new TextReader(tape, spare);
    private final Water water = new Water(new Pond());
    private final Notes notes = new Notes();
    private final Ripples ripples = new Ripples(water);
    private final Skating skating = new Skating(water, ripples);
    private final Guesses guesses = new Guesses(water, ripples, notes);

    public PondReader() {
        tapeLength = 0;
    }

    public int feed(int a, int b, int c, int d, int e) {
        if (tapeLength > TAPE_BYTES - FEED_BYTES) {
            return NONE;
        }
        putBytes(a);
        putBytes(b);
        putBytes(c);
        putBytes(d);
        putBytes(e);
        return tapeLength;
    }

    private void putBytes(int number) {
        for (int shift = 24; shift >= 0 && tapeLength < tape.length; shift -= 8) {
            tape[tapeLength] = (byte) (number >>> shift);
            tapeLength++;
        }
    }

    public int text(int n) {
        if (n < 0 || n > tapeLength) {
            return NOT_SO;
        }
        tapeLength = 0;
        if (!reader.read(spare, n)) {
            return NONE;
        }
        // The pond that was in use is read into next, so that a faulty text never touches the one in use.
        Pond told = spare;
        spare = water.pond;
        water.begin(told);
        notes.clear();
        return reader.lines;
    }

    public int fault(int what) {
        if (what == 0) {
            return reader.faultNumber;
        }
        return what == 1 ? reader.faultPlace : NONE;
    }

    public int named(int what, int letters) {
        Pond pond = water.pond;
        switch (what) {
            case 0:
                return pond.kinds.indexOf(letters);
            case 1:
                return pond.corks.indexOf(letters);
            case 2:
                return pond.skaters.indexOf(letters);
            case 3:
                return pond.mays.indexOf(letters);
            default:
                return NONE;
        }
    }

    public int look(int kind, int what) throws IndexOutOfBoundsException, NoSuchElementException {
        if (!water.pond.kinds.has(kind)) {
            throw new IndexOutOfBoundsException("no such kind");
        }
        if (what == 0) {
            return water.pond.risesOf(kind).size;
        }
        if (what == 1) {
            return water.pond.odds.orZero(kind);
        }
        throw new NoSuchElementException("no such what");
    }

    public int cell(int cell, int what) {
        if (!water.pond.isCell(cell)) {
            return NONE;
        }
        switch (what) {
            case 0:
                return water.pond.isWet(cell) ? (water.hasReeds(cell) ? 1 : 0) : 2;
            case 1:
                return water.pond.shores.indexOf(cell) >= 0 ? 1 : 0;
            case 2:
                return water.pond.corkCells.indexOf(cell);
            case 3:
                return water.drops.inCell(cell);
            default:
                return NONE;
        }
    }

    public int drop(int drop, int what) {
        return water.drops.part(drop, what);
    }

    public int far(int from, int to) {
        if (!water.pond.isWet(from) || !water.pond.isWet(to)) {
            return NONE;
        }
        ripples.freshenWays();
        return ripples.farOf(from, to);
    }

    public int weak(int from, int to) {
        if (!water.pond.isWet(from) || !water.pond.isWet(to)) {
            return NONE;
        }
        ripples.freshenWays();
        return ripples.weakOf(from, to);
    }

    public int rise(int cell, int step) {
        if (!water.pond.isWet(cell) || !isStep(step, STEPS - 1)) {
            return Integer.MIN_VALUE;
        }
        ripples.freshenSums();
        return ripples.sumAt(cell, step);
    }

    public int shows(int cork, int step) {
        if (!water.pond.corks.has(cork)) {
            return Integer.MIN_VALUE;
        }
        return rise(water.pond.corkCells.orZero(cork), step);
    }

    public int most(int cell, int what) {
        if (!water.pond.isWet(cell) || what < 0 || what > 3) {
            return Integer.MIN_VALUE;
        }
        ripples.freshenSums();
        int sign = what < 2 ? 1 : -1;
        int step = ripples.peakStep(cell, sign);
        return what == 0 || what == 2 ? ripples.sumAt(cell, step) : step;
    }

    public long law(int skater, int way) {
        if (!water.pond.skaters.has(skater) || way < 0 || way >= WAYS || water.pond.law.isEmpty()) {
            return ERROR;
        }
        ripples.freshenSums();
        return skating.drive(water.pond.skaterCells.orZero(skater), way, 0);
    }

    public int where(int skater, int n) {
        if (!water.pond.skaters.has(skater) || !isStep(n, LAST_RUN)) {
            return NONE;
        }
        ripples.freshenSums();
        return skating.cellAhead(skater, n);
    }

    public int reaches(int skater, int cell) {
        if (!water.pond.skaters.has(skater) || !water.pond.isCell(cell)) {
            return NONE;
        }
        ripples.freshenSums();
        return skating.arrival(skater, cell);
    }

    public int first(int cell) {
        if (!water.pond.isCell(cell)) {
            return NONE;
        }
        ripples.freshenSums();
        return skating.firstSkater(cell);
    }

    public int lie(int skater, int cell, int kind, int n, int what) {
        Pond pond = water.pond;
        boolean told = pond.skaters.has(skater) && pond.isCell(cell) && pond.kinds.has(kind);
        if (!told || !isStep(n, LAST_LIE) || what < 0 || what > 1) {
            return NONE;
        }
        ripples.freshenSums();
        int answer = skating.seekLie(skater, cell, kind, n);
        if (answer < 0) {
            return answer;
        }
        return what == 0 ? skating.lieStep : skating.lieCell;
    }

    public int fall(int kind, int cell, int step) {
        boolean told = water.pond.kinds.has(kind) && water.pond.isWet(cell);
        if (!told || !isStep(step, DROP_STEPS - 1) || water.drops.isFull()) {
            return NONE;
        }
        return water.addDrop(kind, cell, step);
    }

    public boolean cut(int cell) {
        if (!water.pond.isCell(cell) || !water.hasReeds(cell)) {
            return false;
        }
        water.cutReeds(cell);
        return true;
    }

    public int undo() {
        return water.undoLatest();
    }

    public int note(int cork, int step, int rise) {
        boolean seen = water.pond.corks.has(cork) && isStep(step, STEPS - 1);
        if (!seen || rise < -MOST_RISE_NOTED || rise > MOST_RISE_NOTED) {
            return NONE;
        }
        return notes.addSight(cork, step, rise);
    }

    public int strike(int note) {
        return notes.addStrike(note);
    }

    public boolean known(int n) {
        return notes.limitTo(n);
    }

    public int tales() {
        ripples.freshenWays();
        return guesses.walkTales(NONE);
    }

    public int tale(int k, int what) {
        if (k < 0 || what < 0 || what > 2) {
            return NONE;
        }
        ripples.freshenWays();
        return guesses.walkTales(k) > k ? guesses.taleAsked.part(0, what) : NOT_SO;
    }

    public int likeliest(int what) {
        if (what < 0 || what > 2) {
            return NONE;
        }
        ripples.freshenWays();
        return guesses.walkTales(NONE) > 0 ? guesses.taleLikeliest.part(0, what) : NOT_SO;
    }

    public int fits() {
        ripples.freshenWays();
        return guesses.fittingShores();
    }

    public int apart(int kinds, int n, long cells) {
        ripples.freshenWays();
        return guesses.fewestCorks(kinds, n, cells);
    }

    public int looks(int kind, int like, int cell, int what) {
        Pond pond = water.pond;
        boolean told = pond.kinds.has(kind) && pond.kinds.has(like) && pond.isWet(cell);
        if (!told || what < 0 || what > 1) {
            return NONE;
        }
        ripples.freshenWays();
        guesses.seekNearest(kind, like, cell);
        return what == 0 ? guesses.nearestCell : guesses.nearestSum;
    }

    public long still(int kind, int cell, int other, int there, int to) {
        Pond pond = water.pond;
        boolean told = pond.kinds.has(kind) && pond.isWet(cell) && pond.kinds.has(other) && pond.isWet(there);
        if (!told || !isStep(to, LAST_STILL)) {
            return NONE;
        }
        ripples.freshenWays();
        return guesses.stillCells(kind, cell, other, there, to);
    }

    public int chance(int seed, int kind, int n, int cork, int step) {
        boolean told = water.pond.kinds.has(kind) && water.pond.corks.has(cork);
        if (!told || seed < 0 || n < 1 || n > 9 || !isStep(step, LAST_CHANCE)) {
            return NONE;
        }
        ripples.freshenWays();
        return guesses.drawsAbove(seed, kind, n, cork, step);
    }

    public int keep() {
        return water.keepImage();
    }

    public int back() {
        return water.takeImage();
    }

    public int count(int what) {
        Pond pond = water.pond;
        switch (what) {
            case 0:
                return pond.wide;
            case 1:
                return pond.high;
            case 2:
                return pond.kinds.size;
            case 3:
                return pond.corks.size;
            case 4:
                return pond.skaters.size;
            case 5:
                return water.drops.size;
            case 6:
                return pond.shores.size;
            case 7:
                return pond.mays.size;
            case 8:
                return pond.law.knots;
            case 9:
                return notes.size;
            case 10:
                return notes.knownBy();
            case 11:
                return water.undoSize;
            case 12:
                return Long.bitCount(water.reeds);
            default:
                return NONE;
        }
    }

    private static boolean isStep(int step, int last) {
        return step >= 0 && step <= last;
    }

    /** The words of the language; code is what a word is in a law, if it may stand there. */
    private enum Word {
        POND("pond", NO_KNOT), LAND("land", NO_KNOT), REED("reed", NO_KNOT), SHORE("shore", NO_KNOT),
        KIND("kind", NO_KNOT), ODDS("odds", NO_KNOT), CORK("cork", NO_KNOT), SKATER("skater", NO_KNOT),
        DROP("drop", NO_KNOT), LOSS("loss", NO_KNOT), THICK("thick", NO_KNOT), SENT("sent", NO_KNOT),
        LAW("law", NO_KNOT), MAY("may", NO_KNOT), OR("or", KNOT_OR), AND("and", KNOT_AND),
        NOT("not", KNOT_NOT), RISE("rise", KNOT_RISE), HERE("here", KNOT_HERE), REEDS("reeds", KNOT_REEDS),
        WAY("way", KNOT_WAY), STEP("step", KNOT_STEP);

        private static final Word[] ALL = values();

        private final int letters;
        private final int code;

        Word(String text, int code) {
            this.letters = packed(text);
            this.code = code;
        }

        private static int packed(String text) {
            int letters = 0;
            for (int i = 0; i < LETTERS; i++) {
                letters = letters << LETTER_BITS | (i < text.length() ? text.charAt(i) - 'a' + 1 : 0);
            }
            return letters;
        }

        /** The word with these letters; null if it is none of the language. */
        private static Word of(int letters) {
            for (int i = 0; i < ALL.length; i++) {
                if (ALL[i].letters == letters) {
                    return ALL[i];
                }
            }
            return null;
        }
    }

    /** Numbers in a row up to a limit. */
    private static final class Row {
        private final int[] items;
        private int size;

        Row(int limit) {
            items = new int[Math.max(limit, 0)];
        }

        void clear() {
            size = 0;
        }

        boolean isFull() {
            return size >= items.length;
        }

        boolean has(int index) {
            return index >= 0 && index < size;
        }

        int orZero(int index) {
            return index >= 0 && index < size && index < items.length ? items[index] : 0;
        }

        void add(int item) {
            if (size >= 0 && size < items.length) {
                items[size] = item;
                size++;
            }
        }

        int indexOf(int item) {
            for (int i = 0; i < size && i < items.length; i++) {
                if (items[i] == item) {
                    return i;
                }
            }
            return NONE;
        }

        long cellBits() {
            long bits = 0;
            for (int i = 0; i < size && i < items.length; i++) {
                bits |= 1L << items[i];
            }
            return bits;
        }
    }

    /** Drops, each with its kind, cell and step. */
    private static final class Drops {
        private final int[] kinds;
        private final int[] cells;
        private final int[] steps;
        private int size;

        Drops(int limit) {
            kinds = new int[Math.max(limit, 0)];
            cells = new int[Math.max(limit, 0)];
            steps = new int[Math.max(limit, 0)];
        }

        void clear() {
            size = 0;
        }

        boolean isFull() {
            return size >= kinds.length;
        }

        void add(int kind, int cell, int step) {
            if (size >= 0 && size < kinds.length) {
                kinds[size] = kind;
                cells[size] = cell;
                steps[size] = step;
                size++;
            }
        }

        void removeLast() {
            if (size > 0) {
                size--;
            }
        }

        void copyOf(Drops other) {
            clear();
            for (int i = 0; i < other.size; i++) {
                add(other.kinds[i], other.cells[i], other.steps[i]);
            }
        }

        int part(int drop, int what) {
            if (drop < 0 || drop >= size) {
                return NONE;
            }
            switch (what) {
                case 0:
                    return kinds[drop];
                case 1:
                    return cells[drop];
                case 2:
                    return steps[drop];
                default:
                    return NONE;
            }
        }

        long cellBits() {
            long bits = 0;
            for (int i = 0; i < size; i++) {
                bits |= 1L << cells[i];
            }
            return bits;
        }

        int inCell(int cell) {
            int sum = 0;
            for (int i = 0; i < size; i++) {
                if (cells[i] == cell) {
                    sum++;
                }
            }
            return sum;
        }
    }

    /** A law's knots, operands ahead of what joins them, so that no recursion is needed to work it out. */
    private static final class Law {
        private static final long LIMIT = 1000000000000L;

        private final int[] codes = new int[MOST_KNOTS];
        private final int[] numbers = new int[MOST_KNOTS];
        private final long[] stack = new long[MOST_KNOTS];
        private final long[] names = new long[KNOT_STEP + 1];
        private int knots;

        void clear() {
            knots = 0;
        }

        boolean isEmpty() {
            return knots == 0;
        }

        void add(int code, int number) {
            if (knots >= 0 && knots < MOST_KNOTS) {
                codes[knots] = code;
                numbers[knots] = number;
                knots++;
            }
        }

        long worth(int rise, int here, int reeds, int way, int step) {
            names[KNOT_RISE] = rise;
            names[KNOT_HERE] = here;
            names[KNOT_REEDS] = reeds;
            names[KNOT_WAY] = way;
            names[KNOT_STEP] = step;
            int top = 0;
            for (int i = 0; i < knots && i < MOST_KNOTS; i++) {
                int code = codes[i];
                int sides = code <= KNOT_STEP ? 0 : code == KNOT_NOT ? 1 : 2;
                int at = top - sides;
                if (at < 0 || at >= MOST_KNOTS || top > MOST_KNOTS || code < 0) {
                    return ERROR;
                }
                long value;
                if (sides == 0) {
                    value = code == KNOT_NUMBER ? numbers[i] : names[code];
                } else {
                    value = sides == 1 ? (stack[at] == 0 ? 1 : 0) : joined(code, stack[at], stack[at + 1]);
                }
                if (value > LIMIT || value < -LIMIT) {
                    return ERROR;
                }
                stack[at] = value;
                top = at + 1;
            }
            return top == 1 ? stack[0] : ERROR;
        }

        private static long joined(int code, long a, long b) {
            switch (code) {
                case KNOT_OR:
                    return a != 0 || b != 0 ? 1 : 0;
                case KNOT_AND:
                    return a != 0 && b != 0 ? 1 : 0;
                case KNOT_LESS:
                    return a < b ? 1 : 0;
                case KNOT_LESS_EQUAL:
                    return a <= b ? 1 : 0;
                case KNOT_EQUAL:
                    return a == b ? 1 : 0;
                case KNOT_UNEQUAL:
                    return a != b ? 1 : 0;
                case KNOT_MORE_EQUAL:
                    return a >= b ? 1 : 0;
                case KNOT_MORE:
                    return a > b ? 1 : 0;
                case KNOT_PLUS:
                    return a + b;
                case KNOT_MINUS:
                    return a - b;
                case KNOT_TIMES:
                    // Two values within the limit can have a product beyond a long: a division tells beforehand.
                    return b == 0 ? 0 : Math.abs(a) > LIMIT / Math.abs(b) ? ERROR : a * b;
                case KNOT_OVER:
                    return b == 0 ? ERROR : a / b;
                default:
                    return ERROR;
            }
        }
    }

    /** What a text tells; nothing in it changes afterwards. Land and reeds are bits of cells. */
    private static final class Pond {
        private int wide;
        private int high;
        private long land;
        private long reeds;
        private final Row shores = new Row(MOST_SHORES);
        private final Row[] mayShores = {new Row(MOST_SHORES), new Row(MOST_SHORES), new Row(MOST_SHORES)};
        private final Row mays = new Row(MOST_MAYS);
        private final Row kinds = new Row(MOST_KINDS);
        private final Row[] rises = {
            new Row(MOST_RISES), new Row(MOST_RISES), new Row(MOST_RISES), new Row(MOST_RISES)
        };
        private final Row odds = new Row(MOST_KINDS);
        private final Row corks = new Row(MOST_CORKS);
        private final Row corkCells = new Row(MOST_CORKS);
        private final Row skaters = new Row(MOST_SKATERS);
        private final Row skaterCells = new Row(MOST_SKATERS);
        private final Drops drops = new Drops(TOLD_DROPS);
        private final Law law = new Law();
        private final Row nothing = new Row(0);
        private int loss;
        private int thick;
        private int sent;

        Pond() {
            clear();
        }

        void clear() {
            wide = 4;
            high = 4;
            land = 0;
            reeds = 0;
            loss = 10;
            thick = 30;
            sent = 50;
            shores.clear();
            mays.clear();
            kinds.clear();
            odds.clear();
            corks.clear();
            corkCells.clear();
            skaters.clear();
            skaterCells.clear();
            drops.clear();
            law.clear();
            for (int i = 0; i < mayShores.length; i++) {
                mayShores[i].clear();
            }
            for (int i = 0; i < rises.length; i++) {
                rises[i].clear();
            }
        }

        int cells() {
            return wide * high;
        }

        boolean isCell(int cell) {
            return cell >= 0 && cell < wide * high;
        }

        boolean isWet(int cell) {
            return cell >= 0 && cell < wide * high && (land >>> cell & 1) == 0;
        }

        Row risesOf(int kind) {
            return kind >= 0 && kind < rises.length ? rises[kind] : nothing;
        }

        Row shoresOf(int may) {
            return may >= 0 && may < mayShores.length ? mayShores[may] : nothing;
        }

        /** The cells of which something is told that land can't bear. */
        long usedCells() {
            long used = reeds | shores.cellBits() | corkCells.cellBits() | skaterCells.cellBits() | drops.cellBits();
            for (int i = 0; i < mayShores.length; i++) {
                used |= mayShores[i].cellBits();
            }
            return used;
        }
    }

    /** The tokens of the tape's first bytes, and the one that is looked at. */
    private static final class Tokens {
        private static final int END = 0;
        private static final int NUMBER = 1;
        private static final int NAME = 2;
        private static final int WORD = 3;
        private static final int SIGN = 4;
        private static final int BAD = 5;
        private static final int HUGE = 1000000;

        private final byte[] bytes;
        private final int[] types = new int[TAPE_BYTES];
        private final int[] places = new int[TAPE_BYTES];
        private final int[] values = new int[TAPE_BYTES];
        private int size;
        private int length;
        private int next;
        private int at;
        private int type;
        private int place;
        /** A number, a word's letters or a sign's code. */
        private int value;

        Tokens(byte[] bytes) {
            this.bytes = bytes;
        }

        void scan(int n) {
            length = Math.max(0, Math.min(n, bytes.length));
            next = 0;
            size = 0;
            at = -1;
            // Each token takes at least one byte.
            for (int left = length; left > 0 && next < length; left--) {
                int sign = byteAt(next);
                if (isLetter(sign)) {
                    scanWord();
                } else if (isDigit(sign)) {
                    scanNumber();
                } else {
                    scanSign(sign);
                }
            }
            advance();
        }

        // Behind the last token the end stays.
        void advance() {
            if (at < size) {
                at++;
            }
            boolean more = at >= 0 && at < size && at < types.length;
            type = more ? types[at] : END;
            place = more ? places[at] : length;
            value = more ? values[at] : 0;
        }

        boolean isSign(int code) {
            return type == SIGN && value == code;
        }

        boolean isWord(Word word) {
            return type == WORD && value == word.letters;
        }

        private int byteAt(int index) {
            return index >= 0 && index < length && index < bytes.length ? bytes[index] : 0;
        }

        private void put(int newType, int newPlace, int newValue) {
            if (size >= 0 && size < types.length) {
                types[size] = newType;
                places[size] = newPlace;
                values[size] = newValue;
                size++;
            }
        }

        private void scanWord() {
            int start = next;
            int letters = 0;
            while (next < length && isLetter(byteAt(next))) {
                if (next - start < LETTERS) {
                    letters = letters << LETTER_BITS | byteAt(next) - 'a' + 1;
                }
                next++;
            }
            for (int i = next - start; i < LETTERS; i++) {
                letters = letters << LETTER_BITS;
            }
            int known = Word.of(letters) == null ? NAME : WORD;
            put(next - start > LETTERS ? BAD : known, start, letters);
        }

        private void scanNumber() {
            int start = next;
            int number = 0;
            while (next < length && isDigit(byteAt(next))) {
                number = Math.min(HUGE, number * 10 + byteAt(next) - '0');
                next++;
            }
            put(NUMBER, start, number);
        }

        private void scanSign(int sign) {
            int start = next;
            next++;
            if (sign == 10 || sign == 32) {
                return;
            }
            int code = codeOf(sign);
            int behind = byteAt(next);
            if (sign == '<' && behind == '=') {
                code = KNOT_LESS_EQUAL;
                next++;
            } else if (sign == '<' && behind == '>') {
                code = KNOT_UNEQUAL;
                next++;
            } else if (sign == '>' && behind == '=') {
                code = KNOT_MORE_EQUAL;
                next++;
            }
            put(code == NO_KNOT ? BAD : SIGN, start, code);
        }

        private static int codeOf(int sign) {
            switch (sign) {
                case ';':
                    return SIGN_LINE_END;
                case '(':
                    return SIGN_OPEN;
                case ')':
                    return SIGN_CLOSE;
                case '+':
                    return KNOT_PLUS;
                case '-':
                    return KNOT_MINUS;
                case '*':
                    return KNOT_TIMES;
                case '/':
                    return KNOT_OVER;
                case '=':
                    return KNOT_EQUAL;
                case '<':
                    return KNOT_LESS;
                case '>':
                    return KNOT_MORE;
                default:
                    return NO_KNOT;
            }
        }

        private static boolean isLetter(int sign) {
            return sign >= 'a' && sign <= 'z';
        }

        private static boolean isDigit(int sign) {
            return sign >= '0' && sign <= '9';
        }
    }

    /**
     * Reads a text into a pond. Each fault is looked for at the token of its place before the next token is looked
     * at, so the first one found is the first along the text.
     */
    private static final class TextReader {
        private final Tokens tokens;
        private Pond pond;
        private int faultNumber;
        private int faultPlace = NONE;
        private int lines;
        private boolean pondTold;
        private boolean lossTold;
        private boolean thickTold;
        private boolean sentTold;
        private boolean cellsTold;
        private final int[] waiting = new int[MOST_KNOTS + MOST_OPEN];
        private final int[] waitingRanks = new int[MOST_KNOTS + MOST_OPEN];
        private int waitingSize;
        private int open;
        private int knotsSeen;
        private boolean operandStands;

        TextReader(byte[] tape, Pond pond) {
            this.tokens = new Tokens(tape);
            this.pond = pond;
        }

        /** Whether the tape's first n bytes are a text without a fault; only then is the pond as told. */
        boolean read(Pond fresh, int n) {
            pond = fresh;
            pond.clear();
            faultNumber = 0;
            faultPlace = NONE;
            lines = 0;
            pondTold = false;
            lossTold = false;
            thickTold = false;
            sentTold = false;
            cellsTold = false;
            tokens.scan(n);
            for (int left = n; left > 0 && tokens.type != Tokens.END && faultNumber == 0; left--) {
                if (readLine() && lineEnds()) {
                    lines++;
                }
            }
            return faultNumber == 0;
        }

        private boolean refuse(int number) {
            faultNumber = number;
            faultPlace = tokens.place;
            return false;
        }

        private boolean lineEnds() {
            if (!tokens.isSign(SIGN_LINE_END)) {
                return refuse(CANT_STAND);
            }
            tokens.advance();
            return true;
        }

        private boolean readLine() {
            Word word = tokens.type == Tokens.WORD ? Word.of(tokens.value) : null;
            if (word == null) {
                return refuse(CANT_STAND);
            }
            switch (word) {
                case POND:
                    return readPond();
                case LAND:
                    return readLand();
                case REED:
                    return readReed();
                case SHORE:
                    return beginCells(pond.shores.isFull()) && readShoreCell(pond.shores);
                case KIND:
                    return readKind();
                case CORK:
                    return readPlaced(pond.corks, pond.corkCells);
                case SKATER:
                    return readPlaced(pond.skaters, pond.skaterCells);
                case DROP:
                    return readDrop();
                case LOSS:
                    return readLoss();
                case THICK:
                    return readThick();
                case SENT:
                    return readSent();
                case LAW:
                    return readLaw();
                case MAY:
                    return readMay();
                default:
                    return refuse(CANT_STAND);
            }
        }

        /** The number that stands here; NONE with a fault. */
        private int readNumber(int least, int greatest) {
            if (tokens.type != Tokens.NUMBER) {
                refuse(CANT_STAND);
                return NONE;
            }
            int value = tokens.value;
            if (value < least || value > greatest) {
                refuse(TOO_MUCH);
                return NONE;
            }
            tokens.advance();
            return value;
        }

        /** The cell that stands here, which may be none of the forbidden ones (bits); NONE with a fault. */
        private int readCell(long forbidden) {
            int x = readNumber(0, pond.wide - 1);
            int place = tokens.place;
            int y = x < 0 ? NONE : readNumber(0, pond.high - 1);
            if (y < 0) {
                return NONE;
            }
            int cell = y * pond.wide + x;
            if ((forbidden >>> cell & 1) != 0) {
                faultNumber = WRONG_CELL;
                faultPlace = place;
                return NONE;
            }
            return cell;
        }

        /** Takes the name that stands here, if it is new among these. */
        private boolean readNewName(Row names) {
            if (tokens.type != Tokens.NAME) {
                return refuse(CANT_STAND);
            }
            if (names.indexOf(tokens.value) >= 0) {
                return refuse(TOLD_ALREADY);
            }
            names.add(tokens.value);
            tokens.advance();
            return true;
        }

        /** Goes behind the word of a line that tells of cells, if one more such line may come. */
        private boolean beginCells(boolean full) {
            if (full) {
                return refuse(TOO_MUCH);
            }
            cellsTold = true;
            tokens.advance();
            return true;
        }

        /** The number behind the word of a line that may come once; NONE with a fault. */
        private int readOnce(boolean told, int greatest) {
            if (told) {
                refuse(TOLD_ALREADY);
                return NONE;
            }
            tokens.advance();
            return readNumber(0, greatest);
        }

        private boolean readPond() {
            if (pondTold) {
                return refuse(TOLD_ALREADY);
            }
            if (cellsTold) {
                return refuse(NOT_AHEAD);
            }
            pondTold = true;
            tokens.advance();
            int wide = readNumber(1, MOST_WIDE);
            int high = wide < 0 ? NONE : readNumber(1, MOST_HIGH);
            if (high < 0) {
                return false;
            }
            pond.wide = wide;
            pond.high = high;
            return true;
        }

        private boolean readLand() {
            if (!beginCells(Long.bitCount(pond.land) >= MOST_LAND)) {
                return false;
            }
            int cell = readCell(pond.land | pond.usedCells());
            if (cell < 0) {
                return false;
            }
            pond.land |= 1L << cell;
            return true;
        }

        private boolean readReed() {
            if (!beginCells(Long.bitCount(pond.reeds) >= MOST_REEDS)) {
                return false;
            }
            int cell = readCell(pond.land | pond.reeds);
            if (cell < 0) {
                return false;
            }
            pond.reeds |= 1L << cell;
            return true;
        }

        private boolean readShoreCell(Row shores) {
            int cell = readCell(pond.land | shores.cellBits());
            if (cell < 0) {
                return false;
            }
            shores.add(cell);
            return true;
        }

        private boolean readKind() {
            if (pond.kinds.isFull()) {
                return refuse(TOO_MUCH);
            }
            tokens.advance();
            Row rises = pond.risesOf(pond.kinds.size);
            if (!readNewName(pond.kinds) || !readRises(rises)) {
                return false;
            }
            int odds = 1;
            if (tokens.isWord(Word.ODDS)) {
                tokens.advance();
                odds = readNumber(1, 99);
            }
            pond.odds.add(odds);
            return odds > 0;
        }

        private boolean readRises(Row rises) {
            for (int i = 0; i <= MOST_RISES; i++) {
                boolean below = tokens.isSign(KNOT_MINUS);
                if (!below && tokens.type != Tokens.NUMBER) {
                    return i > 0 || refuse(CANT_STAND);
                }
                if (i == MOST_RISES) {
                    return refuse(TOO_MUCH);
                }
                if (below) {
                    tokens.advance();
                }
                int rise = readNumber(0, 99);
                if (rise < 0) {
                    return false;
                }
                rises.add(below ? -rise : rise);
            }
            return true;
        }

        private boolean readPlaced(Row names, Row cells) {
            if (!beginCells(names.isFull()) || !readNewName(names)) {
                return false;
            }
            int cell = readCell(pond.land);
            if (cell < 0) {
                return false;
            }
            cells.add(cell);
            return true;
        }

        private boolean readDrop() {
            if (!beginCells(pond.drops.isFull())) {
                return false;
            }
            if (tokens.type != Tokens.NAME) {
                return refuse(CANT_STAND);
            }
            int kind = pond.kinds.indexOf(tokens.value);
            if (kind < 0) {
                return refuse(NOT_AHEAD);
            }
            tokens.advance();
            int cell = readCell(pond.land);
            int step = cell < 0 ? NONE : readNumber(0, DROP_STEPS - 1);
            if (step < 0) {
                return false;
            }
            pond.drops.add(kind, cell, step);
            return true;
        }

        private boolean readLoss() {
            int loss = readOnce(lossTold, 50);
            lossTold = true;
            pond.loss = Math.max(loss, 0);
            return loss >= 0;
        }

        private boolean readThick() {
            int thick = readOnce(thickTold, 99);
            thickTold = true;
            pond.thick = Math.max(thick, 0);
            return thick >= 0;
        }

        private boolean readSent() {
            int sent = readOnce(sentTold, 99);
            sentTold = true;
            pond.sent = Math.max(sent, 0);
            return sent >= 0;
        }

        private boolean readMay() {
            if (!beginCells(pond.mays.isFull())) {
                return false;
            }
            Row shores = pond.shoresOf(pond.mays.size);
            if (!readNewName(pond.mays)) {
                return false;
            }
            for (int i = 0; i <= MOST_SHORES && tokens.isWord(Word.SHORE); i++) {
                if (shores.isFull()) {
                    return refuse(TOO_MUCH);
                }
                tokens.advance();
                if (!readShoreCell(shores)) {
                    return false;
                }
            }
            return true;
        }

        /** Reads a law by a stack of what waits for its right side: no depth of calls grows with the text. */
        private boolean readLaw() {
            if (!pond.law.isEmpty()) {
                return refuse(TOLD_ALREADY);
            }
            waitingSize = 0;
            open = 0;
            knotsSeen = 0;
            operandStands = false;
            tokens.advance();
            for (int left = TAPE_BYTES; left > 0 && !lawEnds(); left--) {
                if (!(operandStands ? readBehindOperand() : readOperand())) {
                    return false;
                }
                tokens.advance();
            }
            release(RANK_OR);
            return true;
        }

        private boolean lawEnds() {
            return operandStands && open == 0 && tokens.isSign(SIGN_LINE_END);
        }

        private boolean readOperand() {
            if (tokens.type == Tokens.NUMBER) {
                if (tokens.value > 9999) {
                    return refuse(TOO_MUCH);
                }
                return readLeaf(KNOT_NUMBER);
            }
            if (tokens.isSign(SIGN_OPEN)) {
                if (open >= MOST_OPEN) {
                    return refuse(TOO_MUCH);
                }
                open++;
                return hold(SIGN_OPEN, RANK_OPEN);
            }
            int code = wordCode();
            if (code >= KNOT_RISE && code <= KNOT_STEP) {
                return readLeaf(code);
            }
            if (code == KNOT_NOT && topRank() <= RANK_NOT) {
                return isRoomForKnot() && hold(code, RANK_NOT);
            }
            return refuse(CANT_STAND);
        }

        /** What the word that stands here is in a law; NO_KNOT if it is nothing there. */
        private int wordCode() {
            Word word = tokens.type == Tokens.WORD ? Word.of(tokens.value) : null;
            return word == null ? NO_KNOT : word.code;
        }

        private boolean readLeaf(int code) {
            if (!isRoomForKnot()) {
                return false;
            }
            pond.law.add(code, tokens.value);
            operandStands = true;
            return true;
        }

        private boolean readBehindOperand() {
            if (tokens.isSign(SIGN_CLOSE)) {
                return readClose();
            }
            int code = tokens.type == Tokens.SIGN ? tokens.value : wordCode();
            if (code < KNOT_OR || code > KNOT_OVER) {
                return refuse(CANT_STAND);
            }
            int rank = rankOf(code);
            release(rank == RANK_COMPARISON ? RANK_COMPARISON + 1 : rank);
            if (rank == RANK_COMPARISON && topRank() == RANK_COMPARISON) {
                return refuse(CANT_STAND);
            }
            operandStands = false;
            return isRoomForKnot() && hold(code, rank);
        }

        private boolean readClose() {
            if (open <= 0) {
                return refuse(CANT_STAND);
            }
            release(RANK_OR);
            open--;
            waitingSize = Math.max(waitingSize - 1, 0);
            return true;
        }

        private boolean isRoomForKnot() {
            if (knotsSeen >= MOST_KNOTS) {
                return refuse(TOO_MUCH);
            }
            knotsSeen++;
            return true;
        }

        private boolean hold(int code, int rank) {
            if (waitingSize < 0 || waitingSize >= waiting.length) {
                return refuse(TOO_MUCH);
            }
            waiting[waitingSize] = code;
            waitingRanks[waitingSize] = rank;
            waitingSize++;
            return true;
        }

        /** Lets go what waits and binds at least so closely, down to the latest open bracket. */
        private void release(int rank) {
            while (waitingSize > 0 && waitingSize <= waiting.length && topRank() >= rank) {
                waitingSize--;
                pond.law.add(waiting[waitingSize], 0);
            }
        }

        private int topRank() {
            boolean any = waitingSize > 0 && waitingSize <= waitingRanks.length;
            return any ? waitingRanks[waitingSize - 1] : RANK_OPEN;
        }

        /** How closely what joins two sides binds. */
        private static int rankOf(int code) {
            switch (code) {
                case KNOT_OR:
                    return RANK_OR;
                case KNOT_AND:
                    return RANK_AND;
                case KNOT_PLUS:
                case KNOT_MINUS:
                    return RANK_SUM;
                case KNOT_TIMES:
                case KNOT_OVER:
                    return RANK_PRODUCT;
                default:
                    return RANK_COMPARISON;
            }
        }
    }

    /** The pond as it is now: drops and reeds, what can be undone of them, and their image. */
    private static final class Water {
        private static final int A_DROP = -1;

        private Pond pond;
        private long reeds;
        private final Drops drops = new Drops(MOST_DROPS);
        private final Drops imageDrops = new Drops(MOST_DROPS);
        private long imageReeds;
        private boolean imageKept;
        private final int[] undos = new int[MOST_UNDO];
        private int undoSize;
        private boolean waysStale;
        private boolean sumsStale;

        Water(Pond pond) {
            begin(pond);
        }

        void begin(Pond told) {
            pond = told;
            reeds = told.reeds;
            drops.copyOf(told.drops);
            imageKept = false;
            undoSize = 0;
            waysStale = true;
            sumsStale = true;
        }

        boolean hasReeds(int cell) {
            return (reeds >>> cell & 1) != 0;
        }

        /** The number of the drop that comes. */
        int addDrop(int kind, int cell, int step) {
            drops.add(kind, cell, step);
            remember(A_DROP);
            sumsStale = true;
            return drops.size - 1;
        }

        void cutReeds(int cell) {
            changeReeds(reeds & ~(1L << cell));
            remember(cell);
        }

        private void changeReeds(long now) {
            reeds = now;
            waysStale = true;
            sumsStale = true;
        }

        // Only so many can be undone: the oldest one is forgotten for the newest.
        private void remember(int change) {
            if (undoSize >= MOST_UNDO) {
                for (int i = 1; i < MOST_UNDO; i++) {
                    undos[i - 1] = undos[i];
                }
                undoSize = MOST_UNDO - 1;
            }
            undos[undoSize] = change;
            undoSize++;
        }

        int undoLatest() {
            if (undoSize < 1) {
                return NONE;
            }
            undoSize--;
            int change = undos[undoSize];
            if (change == A_DROP) {
                drops.removeLast();
                sumsStale = true;
            } else {
                changeReeds(reeds | 1L << change);
            }
            return undoSize;
        }

        int keepImage() {
            imageDrops.copyOf(drops);
            imageReeds = reeds;
            imageKept = true;
            return drops.size;
        }

        int takeImage() {
            if (!imageKept) {
                return NONE;
            }
            drops.copyOf(imageDrops);
            changeReeds(imageReeds);
            undoSize = 0;
            return drops.size;
        }
    }

    /** How far and how weak ripples come, and what rises by them. */
    private static final class Ripples {
        private final Water water;
        private final int[] near = new int[MOST_CELLS * WAYS];
        private final int[] fars = new int[MOST_CELLS * MOST_CELLS];
        private final int[] weaks = new int[MOST_CELLS * MOST_CELLS];
        private final int[] queue = new int[MOST_CELLS];
        private final int[] sums = new int[MOST_CELLS * STEPS];
        private final Row poured = new Row(MOST_RISES);
        private final Row sentBack = new Row(MOST_RISES);

        Ripples(Water water) {
            this.water = water;
        }

        void freshenWays() {
            if (!water.waysStale) {
                return;
            }
            water.waysStale = false;
            layNeighbours();
            for (int from = 0; from < water.pond.cells() && from < MOST_CELLS; from++) {
                spread(from);
            }
        }

        void freshenSums() {
            freshenWays();
            if (!water.sumsStale) {
                return;
            }
            water.sumsStale = false;
            for (int i = 0; i < water.pond.cells() * STEPS && i < sums.length; i++) {
                sums[i] = 0;
            }
            Drops drops = water.drops;
            for (int i = 0; i < drops.size; i++) {
                pour(drops.kinds[i], drops.cells[i], drops.steps[i], 1);
            }
        }

        /** Adds so many times what a drop makes rise to the sums: -1 takes it out again. */
        void pour(int kind, int from, int step, int times) {
            Row rises = water.pond.risesOf(kind);
            Row shores = water.pond.shores;
            poured.clear();
            for (int k = 0; k < rises.size; k++) {
                poured.add(rises.orZero(k) * times);
            }
            spreadRises(poured, from, step);
            for (int i = 0; i < shores.size; i++) {
                pourBy(shores.orZero(i), from, step);
            }
        }

        // What a shore sends back goes on from there as a drop's rises do.
        private void pourBy(int shore, int from, int step) {
            int far = farOf(from, shore);
            if (far < 0) {
                return;
            }
            sentBack.clear();
            for (int k = 0; k < poured.size; k++) {
                sentBack.add(sentOf(poured.orZero(k), from, shore));
            }
            spreadRises(sentBack, shore, step + far);
        }

        private void spreadRises(Row rises, int from, int step) {
            for (int to = 0; to < water.pond.cells(); to++) {
                int far = farOf(from, to);
                for (int k = 0; k < rises.size && far >= 0; k++) {
                    addSum(to, step + far + k, partOf(rises.orZero(k), from, to));
                }
            }
        }

        private void layNeighbours() {
            int wide = water.pond.wide;
            int high = water.pond.high;
            for (int y = 0; y < high; y++) {
                for (int x = 0; x < wide; x++) {
                    int cell = y * wide + x;
                    setNear(cell, 0, cell, true);
                    setNear(cell, 1, cell - wide, y > 0);
                    setNear(cell, 2, cell + 1, x + 1 < wide);
                    setNear(cell, 3, cell + wide, y + 1 < high);
                    setNear(cell, 4, cell - 1, x > 0);
                }
            }
        }

        private void setNear(int cell, int way, int there, boolean inside) {
            int index = cell * WAYS + way;
            if (index >= 0 && index < near.length) {
                near[index] = inside && water.pond.isWet(there) ? there : NONE;
            }
        }

        /** The cell of the water that lies that way; NONE if there is none. */
        int nearOf(int cell, int way) {
            boolean asked = water.pond.isCell(cell) && cell < MOST_CELLS && way >= 0 && way < WAYS;
            return asked ? near[cell * WAYS + way] : NONE;
        }

        // Cells come by how far they are, so those ahead of a cell are settled when it hands on its own weakness.
        private void spread(int from) {
            for (int to = 0; to < water.pond.cells() && to < MOST_CELLS; to++) {
                fars[from * MOST_CELLS + to] = NOT_SO;
                weaks[from * MOST_CELLS + to] = NOT_SO;
            }
            if (!water.pond.isWet(from)) {
                return;
            }
            fars[from * MOST_CELLS + from] = 0;
            weaks[from * MOST_CELLS + from] = 0;
            queue[0] = from;
            int end = 1;
            for (int i = 0; i < end && i < MOST_CELLS; i++) {
                for (int way = 1; way < WAYS; way++) {
                    int there = nearOf(queue[i], way);
                    if (there >= 0 && there < MOST_CELLS && handOn(from, queue[i], there) && end < MOST_CELLS) {
                        queue[end] = there;
                        end++;
                    }
                }
            }
        }

        /** Whether a cell is come to for the first time. */
        private boolean handOn(int from, int here, int there) {
            int mine = from * MOST_CELLS + here;
            int its = from * MOST_CELLS + there;
            int weak = weaks[mine] + water.pond.loss + (water.hasReeds(there) ? water.pond.thick : 0);
            boolean fresh = fars[its] < 0;
            if (fresh || fars[its] == fars[mine] + 1 && weak < weaks[its]) {
                fars[its] = fars[mine] + 1;
                weaks[its] = weak;
            }
            return fresh;
        }

        int farOf(int from, int to) {
            boolean asked = from >= 0 && from < MOST_CELLS && to >= 0 && to < MOST_CELLS;
            return asked ? fars[from * MOST_CELLS + to] : NOT_SO;
        }

        int weakOf(int from, int to) {
            boolean asked = from >= 0 && from < MOST_CELLS && to >= 0 && to < MOST_CELLS;
            return asked ? weaks[from * MOST_CELLS + to] : NOT_SO;
        }

        private int partOf(int rise, int from, int to) {
            if (from < 0 || from >= MOST_CELLS || to < 0 || to >= MOST_CELLS) {
                return 0;
            }
            int left = 100 - weaks[from * MOST_CELLS + to];
            return left > 0 ? rise * left / 100 : 0;
        }

        /** What a shore sends back of a rise. */
        private int sentOf(int rise, int from, int shore) {
            return partOf(rise, from, shore) * water.pond.sent / 100;
        }

        /** How far it is by a shore; NOT_SO if there is no way. */
        private int farBy(int from, int shore, int to) {
            int there = farOf(from, shore);
            int back = farOf(shore, to);
            return there < 0 || back < 0 ? NOT_SO : there + back;
        }

        private void addSum(int cell, int step, int rise) {
            if (cell >= 0 && cell < MOST_CELLS && step >= 0 && step < STEPS) {
                sums[cell * STEPS + step] += rise;
            }
        }

        int sumAt(int cell, int step) {
            boolean asked = cell >= 0 && cell < MOST_CELLS && step >= 0 && step < STEPS;
            return asked ? sums[cell * STEPS + step] : 0;
        }

        /** The first step with the greatest rise of a cell (sign 1) or with the least (sign -1). */
        int peakStep(int cell, int sign) {
            int best = 0;
            for (int step = 1; step < STEPS; step++) {
                if (sign * sumAt(cell, step) > sign * sumAt(cell, best)) {
                    best = step;
                }
            }
            return best;
        }

        /** What rises in a cell so many steps after one drop alone. */
        int alone(int kind, int from, int to, int later, Row shores) {
            Row rises = water.pond.risesOf(kind);
            int far = farOf(from, to);
            int rise = far < 0 ? 0 : partOf(rises.orZero(later - far), from, to);
            for (int i = 0; i < shores.size; i++) {
                int shore = shores.orZero(i);
                far = farBy(from, shore, to);
                rise += far < 0 ? 0 : partOf(sentOf(rises.orZero(later - far), from, shore), shore, to);
            }
            return rise;
        }
    }

    /** Notes and strikes, numbered together, and which of them are known. */
    private static final class Notes {
        private static final int A_SIGHT = -1;

        private final int[] corks = new int[MOST_NOTES];
        private final int[] steps = new int[MOST_NOTES];
        private final int[] rises = new int[MOST_NOTES];
        private final int[] strikes = new int[MOST_NOTES];
        private final boolean[] struck = new boolean[MOST_NOTES];
        private final Row sights = new Row(MOST_NOTES);
        private int size;
        private int limit = NONE;

        void clear() {
            size = 0;
            limit = NONE;
        }

        int addSight(int cork, int step, int rise) {
            if (size < 0 || size >= MOST_NOTES) {
                return NONE;
            }
            corks[size] = cork;
            steps[size] = step;
            rises[size] = rise;
            strikes[size] = A_SIGHT;
            size++;
            return size - 1;
        }

        int addStrike(int note) {
            if (note < 0 || note >= size || size >= MOST_NOTES) {
                return NONE;
            }
            strikes[size] = note;
            size++;
            return size - 1;
        }

        boolean limitTo(int n) {
            if (n < NONE || n > size) {
                return false;
            }
            limit = n;
            return true;
        }

        int knownBy() {
            return limit < 0 ? size : limit;
        }

        /** The numbers of the known notes that aren't strikes. */
        Row knownSights() {
            int by = Math.min(knownBy(), MOST_NOTES);
            for (int i = 0; i < by; i++) {
                struck[i] = false;
            }
            // A strike is always behind what it strikes, so from the last one on each is settled when it is asked.
            for (int i = by - 1; i >= 0; i--) {
                if (!struck[i] && strikes[i] >= 0 && strikes[i] < i) {
                    struck[strikes[i]] = true;
                }
            }
            sights.clear();
            for (int i = 0; i < by; i++) {
                if (!struck[i] && strikes[i] == A_SIGHT) {
                    sights.add(i);
                }
            }
            return sights;
        }
    }

    /** Where skaters go. */
    private static final class Skating {
        private final Water water;
        private final Ripples ripples;
        private final int[] path = new int[LAST_RUN + 1];
        private int lieStep;
        private int lieCell;

        Skating(Water water, Ripples ripples) {
            this.water = water;
            this.ripples = ripples;
        }

        int cellAhead(int skater, int n) {
            follow(skater, n);
            return n >= 0 && n < path.length ? path[n] : NONE;
        }

        int arrival(int skater, int cell) {
            follow(skater, LAST_RUN);
            return arrivalOnPath(cell, LAST_RUN);
        }

        /** Ahead of which step up to the last the path is first in a cell; NOT_SO: of none. */
        private int arrivalOnPath(int cell, int last) {
            for (int n = 0; n <= last && n < path.length; n++) {
                if (path[n] == cell) {
                    return n;
                }
            }
            return NOT_SO;
        }

        int firstSkater(int cell) {
            int who = NOT_SO;
            int when = LAST_RUN + 1;
            for (int skater = 0; skater < water.pond.skaters.size; skater++) {
                follow(skater, LAST_RUN);
                int n = arrivalOnPath(cell, LAST_RUN);
                if (n >= 0 && n < when) {
                    who = skater;
                    when = n;
                }
            }
            return who;
        }

        /** 0 if a lie is found (lieStep, lieCell); else what lie() answers. */
        int seekLie(int skater, int cell, int kind, int n) {
            follow(skater, n);
            int reached = arrivalOnPath(cell, n);
            if (reached < 0) {
                return NOT_THERE;
            }
            // A drop in the step of the arrival or later comes too late to change it.
            for (int step = 0; step <= LAST_LIE_DROP && step < reached; step++) {
                for (int from = 0; from < water.pond.cells(); from++) {
                    int seen = firstSeen(from, step, reached);
                    if (seen >= 0 && isLie(kind, from, step, seen, cell, n)) {
                        lieStep = step;
                        lieCell = from;
                        return 0;
                    }
                }
            }
            return NOT_SO;
        }

        /** The first step ahead of the end in which a skater on the path can see a drop's ripple; NONE: it can't. */
        private int firstSeen(int from, int dropStep, int end) {
            for (int step = dropStep; step < end && step < path.length; step++) {
                int far = step < 0 ? NOT_SO : ripples.farOf(from, path[step]);
                // It looks one cell ahead, and no ripple comes sooner by a shore than directly.
                if (far >= 0 && dropStep + far - 1 <= step) {
                    return step;
                }
            }
            return NONE;
        }

        // Until the drop's ripple is seen the skater goes as it does without, so its path is taken up there.
        private boolean isLie(int kind, int from, int dropStep, int seen, int cell, int n) {
            ripples.pour(kind, from, dropStep, 1);
            int here = seen >= 0 && seen < path.length ? path[seen] : cell;
            for (int step = seen; step < n && here != cell; step++) {
                here = next(here, step);
            }
            ripples.pour(kind, from, dropStep, -1);
            return here != cell;
        }

        private void follow(int skater, int last) {
            int here = water.pond.skaterCells.orZero(skater);
            path[0] = here;
            for (int step = 0; step < last && step + 1 < path.length; step++) {
                here = next(here, step);
                path[step + 1] = here;
            }
        }

        private int next(int here, int step) {
            int best = here;
            long most = 0;
            for (int way = 0; way < WAYS; way++) {
                int there = ripples.nearOf(here, way);
                if (there >= 0) {
                    long drive = drive(here, way, step);
                    long worth = drive == ERROR ? 0 : drive;
                    if (way == 0 || worth > most) {
                        best = there;
                        most = worth;
                    }
                }
            }
            return best;
        }

        /** The law's worth for a skater that looks that way, the rise without a law; ERROR also without water. */
        long drive(int here, int way, int step) {
            int there = ripples.nearOf(here, way);
            if (there < 0) {
                return ERROR;
            }
            int rise = ripples.sumAt(there, step);
            if (water.pond.law.isEmpty()) {
                return rise;
            }
            int reeds = water.hasReeds(there) ? 1 : 0;
            return water.pond.law.worth(rise, ripples.sumAt(here, step), reeds, way, step);
        }
    }

    /** What can have fallen, and what drops alone show. */
    private static final class Guesses {
        private static final int DRAWS = 10;
        private static final int DRAWN_STEPS = 16;
        private static final int NUMBERS_ABOVE = 65536;

        private final Water water;
        private final Ripples ripples;
        private final Notes notes;
        private final Drops taleAsked = new Drops(1);
        private final Drops taleLikeliest = new Drops(1);
        private final int[] shown = new int[APART_DROPS * SHOWN_STEPS];
        private final int[] tellers = new int[APART_DROPS * APART_DROPS];
        private final Drops compared = new Drops(APART_DROPS);
        private int nearestCell;
        private int nearestSum;
        private long drawn;

        Guesses(Water water, Ripples ripples, Notes notes) {
            this.water = water;
            this.ripples = ripples;
            this.notes = notes;
        }

        /** How many tales there are; the k-th is asked then, and the likeliest is found. */
        int walkTales(int k) {
            Row sights = notes.knownSights();
            int most = 0;
            int tales = 0;
            taleAsked.clear();
            taleLikeliest.clear();
            for (int kind = 0; kind < water.pond.kinds.size; kind++) {
                int ahead = tales;
                tales = walkCells(kind, tales, k, sights);
                int odds = water.pond.odds.orZero(kind);
                if (tales > ahead && odds > most) {
                    most = odds;
                    taleLikeliest.copyOf(compared);
                }
            }
            return tales;
        }

        /** How many tales there are with those of one kind; the first of these is in compared then. */
        private int walkCells(int kind, int ahead, int k, Row sights) {
            int tales = ahead;
            compared.clear();
            for (int cell = 0; cell < water.pond.cells(); cell++) {
                for (int step = 0; step <= LAST_TALE_DROP && water.pond.isWet(cell); step++) {
                    if (!isTale(kind, cell, step, sights)) {
                        continue;
                    }
                    if (tales == ahead) {
                        compared.add(kind, cell, step);
                    }
                    if (tales == k) {
                        taleAsked.add(kind, cell, step);
                    }
                    tales++;
                }
            }
            return tales;
        }

        private boolean isTale(int kind, int cell, int step, Row sights) {
            for (int i = 0; i < sights.size; i++) {
                int note = Math.min(sights.orZero(i), MOST_NOTES - 1);
                int cork = water.pond.corkCells.orZero(notes.corks[note]);
                int later = notes.steps[note] - step;
                if (ripples.alone(kind, cell, cork, later, water.pond.shores) != notes.rises[note]) {
                    return false;
                }
            }
            return true;
        }

        int fittingShores() {
            Row sights = notes.knownSights();
            int mays = water.pond.mays.size;
            int bits = fitsBy(water.pond.shores, sights) ? 1 << mays : 0;
            for (int may = 0; may < mays; may++) {
                if (fitsBy(water.pond.shoresOf(may), sights)) {
                    bits |= 1 << may;
                }
            }
            return bits;
        }

        private boolean fitsBy(Row shores, Row sights) {
            for (int i = 0; i < sights.size; i++) {
                int note = Math.min(sights.orZero(i), MOST_NOTES - 1);
                int cork = water.pond.corkCells.orZero(notes.corks[note]);
                if (riseBy(shores, cork, notes.steps[note]) != notes.rises[note]) {
                    return false;
                }
            }
            return true;
        }

        private int riseBy(Row shores, int cell, int step) {
            Drops drops = water.drops;
            int rise = 0;
            for (int i = 0; i < drops.size; i++) {
                rise += ripples.alone(drops.kinds[i], drops.cells[i], cell, step - drops.steps[i], shores);
            }
            return rise;
        }

        int fewestCorks(int kinds, int n, long cells) {
            if (kinds <= 0 || kinds >= 1 << water.pond.kinds.size || n < 1 || n > APART_CELLS) {
                return NONE;
            }
            if (!gatherCompared(kinds, n, cells)) {
                return NONE;
            }
            int corks = water.pond.corks.size;
            for (int i = 0; i < tellers.length; i++) {
                tellers[i] = 0;
            }
            for (int cork = 0; cork < corks; cork++) {
                showCompared(water.pond.corkCells.orZero(cork));
                markTeller(1 << cork);
            }
            for (int size = 0; size <= corks; size++) {
                for (int bits = 0; bits < 1 << corks; bits++) {
                    if (Integer.bitCount(bits) == size && tellsApart(bits)) {
                        return bits;
                    }
                }
            }
            return NOT_SO;
        }

        private boolean gatherCompared(int kinds, int n, long cells) {
            compared.clear();
            long seen = 0;
            for (int i = 0; i < n; i++) {
                int cell = (int) (cells >>> 8 * i & 255);
                if (!water.pond.isWet(cell) || (seen >>> cell & 1) != 0) {
                    return false;
                }
                seen |= 1L << cell;
                for (int kind = 0; kind < MOST_KINDS; kind++) {
                    if ((kinds >>> kind & 1) != 0) {
                        compared.add(kind, cell, 0);
                    }
                }
            }
            return true;
        }

        private void showCompared(int cork) {
            for (int i = 0; i < compared.size; i++) {
                showRow(i, compared.kinds[i], compared.cells[i], cork);
            }
        }

        private void showRow(int row, int kind, int from, int cork) {
            for (int step = 0; step < SHOWN_STEPS; step++) {
                int index = row * SHOWN_STEPS + step;
                if (index >= 0 && index < shown.length) {
                    shown[index] = ripples.alone(kind, from, cork, step, water.pond.shores);
                }
            }
        }

        private void markTeller(int corkBit) {
            for (int one = 0; one < compared.size; one++) {
                for (int other = 0; other < one; other++) {
                    if (rowsDiffer(one, other)) {
                        tellers[one * APART_DROPS + other] |= corkBit;
                    }
                }
            }
        }

        private boolean rowsDiffer(int one, int other) {
            for (int step = 0; step < SHOWN_STEPS; step++) {
                if (shown[one * SHOWN_STEPS + step] != shown[other * SHOWN_STEPS + step]) {
                    return true;
                }
            }
            return false;
        }

        private boolean tellsApart(int corks) {
            for (int one = 0; one < compared.size; one++) {
                for (int other = 0; other < one; other++) {
                    if ((tellers[one * APART_DROPS + other] & corks) == 0) {
                        return false;
                    }
                }
            }
            return true;
        }

        void seekNearest(int kind, int like, int cell) {
            int corks = water.pond.corks.size;
            for (int cork = 0; cork < corks; cork++) {
                showRow(cork, like, cell, water.pond.corkCells.orZero(cork));
            }
            nearestCell = NONE;
            nearestSum = NONE;
            for (int from = 0; from < water.pond.cells(); from++) {
                if (water.pond.isWet(from)) {
                    int sum = differenceFrom(kind, from);
                    boolean nearer = nearestCell < 0 || sum < nearestSum;
                    nearestCell = nearer ? from : nearestCell;
                    nearestSum = nearer ? sum : nearestSum;
                }
            }
        }

        /** How much what corks show of a drop differs from the shown rows, one a cork. */
        private int differenceFrom(int kind, int from) {
            int sum = 0;
            for (int cork = 0; cork < water.pond.corks.size; cork++) {
                int cell = water.pond.corkCells.orZero(cork);
                for (int step = 0; step < SHOWN_STEPS; step++) {
                    int rise = ripples.alone(kind, from, cell, step, water.pond.shores);
                    sum += Math.abs(rise - shown[cork * SHOWN_STEPS + step]);
                }
            }
            return sum;
        }

        long stillCells(int kind, int cell, int other, int there, int to) {
            long bits = 0;
            Row shores = water.pond.shores;
            for (int at = 0; at < water.pond.cells(); at++) {
                boolean still = water.pond.isWet(at);
                for (int step = 0; step <= to && still; step++) {
                    int rise = ripples.alone(kind, cell, at, step, shores);
                    still = rise + ripples.alone(other, there, at, step, shores) == 0;
                }
                if (still) {
                    bits |= 1L << at;
                }
            }
            return bits;
        }

        int drawsAbove(int seed, int kind, int n, int cork, int step) {
            int above = 0;
            int cell = water.pond.corkCells.orZero(cork);
            drawn = seed;
            for (int draw = 0; draw < DRAWS; draw++) {
                int rise = 0;
                for (int i = 0; i < n; i++) {
                    rise += drawnRise(kind, cell, step);
                }
                if (rise > 0) {
                    above++;
                }
            }
            return above;
        }

        private int drawnRise(int kind, int cell, int step) {
            int from = drawNumber(water.pond.cells());
            if (!water.pond.isWet(from)) {
                return 0;
            }
            int later = step - drawNumber(DRAWN_STEPS);
            return ripples.alone(kind, from, cell, later, water.pond.shores);
        }

        // The whole last number is drawn on from; the part by 65536 is only what is used of it.
        private int drawNumber(int modulo) {
            drawn = drawn * 1103515245L + 12345L & Integer.MAX_VALUE;
            return modulo > 0 ? (int) (drawn / NUMBERS_ABOVE % modulo) : 0;
        }
    }
}
