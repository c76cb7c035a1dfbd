/** Promises 22 to 32 at their boundaries: notes, tales, fits, apart, looks, still, chance. */
public final class EdgesOfGuessesTest {
    private static final int NONE = PondReader.NONE;
    private static final int[] OFF = {-1, 4, 5, Integer.MIN_VALUE, Integer.MAX_VALUE};
    /** Five cells in a row; nothing gets weaker on the way. */
    private static final String ROW = "pond 5 1;loss 0;kind up 10;kind down - 10;cork m 2 0;skater s 2 0;";
    /** One cell: 9 in it in step 0, 0 in all other ones. */
    private static final String CELL = "pond 1 1;kind k 9;cork c 0 0;drop k 0 0 0;";

    private EdgesOfGuessesTest() {
    }

    public static void main(String[] args) {
        Suite.run(EdgesOfGuessesTest.class, 22, 23, 24, 25, 26, 27, 28, 29, 30, 31, 32);
    }

    private static void due(String call, long got, long want) {
        Suite.due(call, got, want);
    }

    private static void due(String call, boolean got, boolean want) {
        Suite.due(call, got, want);
    }

    /** 8 times 6 cells; from cell 0 it is 25 to cells 39 and 46, and 26 to cell 47. */
    private static String maze() {
        StringBuilder text = new StringBuilder("pond 8 6;loss 0;");
        for (int x = 0; x < 7; x++) {
            text.append("land " + x + " 1;land " + (x + 1) + " 3;");
        }
        return text.toString();
    }

    // "A NOTE (STEP 0 .. 199, RISE -9999 .. 9999): its number; NONE: no such ones"
    private static void promise22NoSuchOnes() {
        PondReader x = Tape.reader("cork a 0 0;cork b 0 0;cork c 0 0;cork d 0 0;");
        for (int cork : OFF) {
            due("cork " + cork, x.note(cork, 0, 0), NONE);
        }
        for (int step : new int[] {-1, 200, Integer.MIN_VALUE, Integer.MAX_VALUE}) {
            due("step " + step, x.note(0, step, 0), NONE);
        }
        for (int rise : new int[] {-10000, 10000, Integer.MIN_VALUE, Integer.MAX_VALUE}) {
            due("rise " + rise, x.note(0, 0, rise), NONE);
        }
        due("none came", x.count(9), 0);
        due("the least", x.note(0, 0, -9999), 0);
        due("the greatest", x.note(3, 199, 9999), 1);
        due("count(9)", x.count(9), 2);
        due("no corks", new PondReader().note(0, 0, 0), NONE);
    }

    // "or there are 32"
    private static void promise22ThirtyTwoAreTheMost() {
        PondReader x = Tape.reader(CELL);
        for (int i = 0; i < 32; i++) {
            due("note " + i, x.note(0, 0, 9), i);
        }
        due("a 33rd", x.note(0, 0, 8), NONE);
        due("it is none", x.fits() * 100 + x.count(9), 132);
        PondReader mixed = Tape.reader(CELL);
        mixed.note(0, 0, 9);
        for (int i = 1; i < 32; i++) {
            due("strike " + i, mixed.strike(i - 1), i);
        }
        due("strikes are counted, too", mixed.note(0, 0, 9), NONE);
    }

    // The 32nd is looked at as all are, and each is of its own CORK.
    private static void promise22LastOneIsLookedAt() {
        PondReader x = Tape.reader("pond 6 1;loss 0;kind k 9;drop k 0 0 0;cork a 0 0;cork b 1 0;cork c 2 0;cork d 3 0;"
            + "cork e 4 0;cork f 5 0;");
        for (int i = 0; i < 31; i++) {
            due("note " + i, x.note(i % 6, i % 6, 9), i);
        }
        due("fits()", x.fits(), 1);
        due("tales()", x.tales(), 1);
        due("note 31", x.note(5, 5, 8), 31);
        due("fits() by 32", x.fits(), 0);
        due("tales() by 32", x.tales(), 0);
        x.known(31);
        due("fits() by 31", x.fits(), 1);
        due("tales() by 31", x.tales(), 1);
        PondReader other = Tape.reader("pond 6 1;loss 0;kind k 9;drop k 0 0 0;cork a 0 0;cork b 1 0;");
        other.note(0, 1, 9);
        due("not of this cork", other.fits(), 0);
        other.strike(0);
        other.note(1, 1, 9);
        due("of the other one", other.fits(), 1);
    }

    // A NOTE of the last STEP and of the greatest RISE is looked at as all are.
    private static void promise22LastStepIsLookedAt() {
        for (int[] note : new int[][] {{0, 9, 1}, {0, 8, 0}, {1, 0, 1}, {1, 9, 0}, {199, 0, 1}, {199, 1, 0}, {0, 9999, 0},
            {0, -9999, 0}, {0, -9, 0}}) {
            PondReader x = Tape.reader(CELL);
            x.note(0, note[0], note[1]);
            due("note(0, " + note[0] + ", " + note[1] + ")", x.fits(), note[2]);
        }
    }

    // "A STRIKE: its number; NONE: no such NOTE, or there are 32."
    private static void promise23NoSuchNote() {
        PondReader x = Tape.reader(CELL);
        for (int note : new int[] {-1, 0, 1, 31, 32, Integer.MIN_VALUE, Integer.MAX_VALUE}) {
            due("no notes, strike(" + note + ")", x.strike(note), NONE);
        }
        x.note(0, 0, 8);
        for (int note : new int[] {-1, 1, 2, 31, 32, Integer.MIN_VALUE, Integer.MAX_VALUE}) {
            due("strike(" + note + ")", x.strike(note), NONE);
        }
        due("count(9)", x.count(9), 1);
        due("strike(0)", x.strike(0), 1);
        due("itself is none yet", x.strike(2), NONE);
        due("the strike itself", x.strike(1), 2);
        due("one struck already", x.strike(0), 3);
        for (int i = 4; i < 32; i++) {
            due("strike " + i, x.strike(i - 1), i);
        }
        due("a 33rd", x.strike(0), NONE);
        due("a 33rd", x.strike(31), NONE);
        due("count(9)", x.count(9), 32);
    }

    // "(a STRIKE may be STRUCK: then it doesn't count; asked from the last one on)"
    private static void promise23StrikesOfStrikes() {
        PondReader x = Tape.reader(CELL);
        x.note(0, 0, 8);
        for (int i = 1; i < 32; i++) {
            due("fits() by " + i, x.fits(), i % 2 == 0 ? 1 : 0);
            x.strike(i - 1);
        }
        due("fits() by 32", x.fits(), 1);
        for (int n = 32; n > 0; n--) {
            x.known(n);
            due("known(" + n + ")", x.fits(), n % 2 == 0 ? 1 : 0);
        }
        x.known(0);
        due("known(0)", x.fits(), 1);
    }

    // Two STRIKES of one: it is struck as long as one of them counts.
    private static void promise23TwoStrikesOfOne() {
        PondReader x = Tape.reader(CELL);
        x.note(0, 0, 8);
        x.strike(0);
        x.strike(0);
        due("both count", x.fits(), 1);
        x.strike(1);
        due("the second counts", x.fits(), 1);
        x.strike(2);
        due("none counts", x.fits(), 0);
        x.strike(3);
        due("the first counts again", x.fits(), 1);
        due("notes that are so aren't struck by it", x.note(0, 0, 9), 6);
        due("fits()", x.fits(), 1);
        x.note(0, 0, 7);
        due("another one", x.fits(), 0);
    }

    // "KNOWN by n from now on (-1: by all, also those to come): true; false: no such n."
    private static void promise24NoSuchN() {
        PondReader x = Tape.reader(CELL);
        due("known(0)", x.known(0), true);
        due("known(-1)", x.known(-1), true);
        due("known(1)", x.known(1), false);
        x.note(0, 0, 9);
        x.note(0, 0, 8);
        due("known(2)", x.known(2), true);
        due("known(1)", x.known(1), true);
        for (int n : new int[] {3, 4, 33, -2, -3, Integer.MIN_VALUE, Integer.MAX_VALUE}) {
            due("known(" + n + ")", x.known(n), false);
            due("it stays known by one", x.count(10), 1);
            due("fits()", x.fits(), 1);
        }
        for (int i = 2; i < 32; i++) {
            x.note(0, 0, 9);
        }
        due("known(32)", x.known(32), true);
        due("known(33)", x.known(33), false);
        due("count(10)", x.count(10), 32);
        due("fits()", x.fits(), 0);
    }

    // "also those to come" by -1 alone
    private static void promise24ThoseToCome() {
        PondReader x = Tape.reader(CELL);
        x.note(0, 0, 9);
        due("known(1)", x.known(1), true);
        x.note(0, 0, 8);
        due("one to come isn't known", x.fits() * 10 + x.count(10), 11);
        due("known(0)", x.known(0), true);
        due("none is", x.fits() * 10 + x.count(10), 10);
        due("known(-1)", x.known(-1), true);
        due("all are", x.fits() * 10 + x.count(10), 2);
        x.strike(1);
        due("one to come is", x.fits() * 10 + x.count(10), 13);
        x.note(0, 0, 7);
        due("the next one, too", x.fits() * 10 + x.count(10), 4);
    }

    // "the first n that aren't STRUCK by one of these": a STRIKE behind them strikes none
    private static void promise24StrikeBehindTheFirst() {
        PondReader x = Tape.reader(CELL);
        x.note(0, 0, 8);
        x.note(0, 0, 9);
        x.strike(0);
        x.strike(1);
        int[] due = {1, 0, 0, 1, 1};
        for (int n = 0; n < due.length; n++) {
            x.known(n);
            due("known(" + n + ")", x.fits(), due[n]);
        }
    }

    // "DROPS alone (a KIND, a CELL of the water, a STEP 0 .. 20)": without NOTES all of them
    private static void promise25AllOfThem() {
        due("a new object", new PondReader().tales(), 0);
        due("the least pond", Tape.reader("pond 1 1;kind k 1;").tales(), 21);
        due("the greatest", Tape.reader("pond 8 6;kind a 1;kind b 1;kind c 1;kind d 1;").tales(), 4 * 48 * 21);
        due("land is none", Tape.reader("pond 3 1;land 1 0;kind a 1;").tales(), 42);
        due("no water", Tape.reader("pond 1 1;land 0 0;kind a 1;").tales(), 0);
        due("no corks", Tape.reader("pond 2 1;kind a 1;").tales(), 42);
        PondReader x = Tape.reader(CELL);
        x.note(0, 0, 1);
        due("none", x.tales(), 0);
        x.known(0);
        due("known by none", x.tales(), 21);
    }

    // "a STEP 0 .. 20": the first and the last one, and what is behind it
    private static void promise25FirstAndLastStep() {
        for (int step = 0; step <= 22; step++) {
            PondReader x = Tape.reader("pond 1 1;kind k 5;cork c 0 0;");
            x.note(0, step, 5);
            due("a drop of step " + step, x.tales(), step <= 20 ? 1 : 0);
            due("its step", x.tale(0, 2), step <= 20 ? step : -2);
        }
        PondReader far = Tape.reader("pond 3 1;loss 0;kind a 5;cork m 0 0;");
        far.note(0, 22, 5);
        due("from two cells off", far.tales(), 1);
        due("its cell and step", far.tale(0, 1) * 100 + far.tale(0, 2), 220);
        far.note(0, 23, 5);
        due("not both", far.tales(), 0);
    }

    // "by which all KNOWN NOTES are so": alone, directly and by SHORES, RISE 0 too
    private static void promise25AllKnownNotesAreSo() {
        PondReader x = Tape.reader("pond 1 1;kind a 5;kind b 5 0 5;cork c 0 0;drop a 0 0 0;");
        x.note(0, 1, 5);
        due("without the drop that fell", x.tales(), 2);
        x.note(0, 0, 0);
        due("nothing ahead of it", x.tales(), 2);
        x.note(0, 3, 0);
        due("nothing behind it", x.tales(), 1);
        x.strike(2);
        due("struck", x.tales(), 2);
        x.note(0, 199, 0);
        due("nothing in the last step", x.tales(), 2);
        x.note(0, 199, 5);
        due("not both", x.tales(), 0);
        PondReader shore = Tape.reader("pond 3 1;loss 0;kind a 8;cork m 0 0;shore 2 0;");
        shore.note(0, 4, 4);
        due("by a shore", shore.tales(), 2);
        due("its cell and step", shore.tale(0, 1) * 100 + shore.tale(0, 2), 0);
        due("its cell and step", shore.tale(1, 1) * 100 + shore.tale(1, 2), 101);
        PondReader parted = Tape.reader("pond 3 1;land 1 0;kind a 8;cork m 0 0;");
        parted.note(0, 0, 0);
        due("all from where there is no way, and later ones", parted.tales(), 20 + 21);
        PondReader beyond = Tape.reader("pond 6 1;land 2 0;loss 0;kind a 8;cork m 0 0;shore 5 0;shore 1 0;");
        beyond.note(0, 0, 0);
        beyond.note(0, 1, 0);
        beyond.note(0, 2, 0);
        due("nor by a shore where there is no way", beyond.tales(), 18 + 19 + 3 * 21);
        PondReader reeds = Tape.reader("pond 2 1;kind a 10;cork m 0 0;reed 0 0;");
        reeds.note(0, 1, 9);
        due("through reeds", reeds.tales(), 0);
        reeds.cut(0);
        due("they are cut", reeds.tales(), 1);
    }

    // "by KINDS, then CELLS, then STEPS"; "-2: there are no so many"
    private static void promise26LastOneAndBehindIt() {
        PondReader x = Tape.reader("pond 2 1;land 0 0;kind a 1;kind b 1;");
        for (int k = 0; k < 42; k++) {
            due("kind of " + k, x.tale(k, 0), k / 21);
            due("cell of " + k, x.tale(k, 1), 1);
            due("step of " + k, x.tale(k, 2), k % 21);
        }
        PondReader cells = Tape.reader("pond 8 6;kind a 1;kind b 1;kind c 1;kind d 1;");
        for (int k = 0; k < 4 * 48 * 21; k += 251) {
            due("kind of " + k, cells.tale(k, 0), k / (48 * 21));
            due("cell of " + k, cells.tale(k, 1), k / 21 % 48);
            due("step of " + k, cells.tale(k, 2), k % 21);
        }
        due("the last one", cells.tale(4031, 0) * 10000 + cells.tale(4031, 1) * 100 + cells.tale(4031, 2), 34720);
        for (int what = 0; what < 3; what++) {
            due("behind it", x.tale(42, what), -2);
            due("behind it", x.tale(Integer.MAX_VALUE, what), -2);
            due("behind it", cells.tale(4032, what), -2);
            due("no tales", new PondReader().tale(0, what), -2);
        }
    }

    // Asked first behind a TEXT and behind what changes the ways.
    private static void promise26AskedFirst() {
        PondReader x = Tape.reader("pond 3 1;kind a 10;cork m 0 0;reed 0 0;");
        x.note(0, 1, 6);
        due("through reeds", x.tale(0, 1), 1);
        x.cut(0);
        due("they are cut", x.tale(0, 1), -2);
        x.strike(0);
        x.note(0, 1, 9);
        due("they are cut", x.tale(0, 1), 1);
        x.undo();
        due("undone", x.tale(0, 1), -2);
    }

    // "NONE: no such ones."
    private static void promise26NoSuchOnes() {
        PondReader x = Tape.reader("kind a 1;");
        for (int what = 0; what < 3; what++) {
            due("k -1", x.tale(-1, what), NONE);
            due("k -1 without tales", new PondReader().tale(-1, what), NONE);
            due("k least", x.tale(Integer.MIN_VALUE, what), NONE);
        }
        for (int what : new int[] {-1, 3, Integer.MIN_VALUE, Integer.MAX_VALUE}) {
            due("what " + what, x.tale(0, what), NONE);
            due("what " + what + " without tales", new PondReader().tale(0, what), NONE);
        }
    }

    // "that with the greatest odds of its KIND, of several the first"
    private static void promise27OfSeveralTheFirst() {
        likeliest("pond 1 1;cork m 0 0;kind a 5;kind b 5 odds 1;", 0);
        likeliest("pond 1 1;cork m 0 0;kind a 5;kind b 5 odds 2;", 1);
        likeliest("pond 1 1;cork m 0 0;kind a 5 odds 2;kind b 5;", 0);
        likeliest("pond 1 1;cork m 0 0;kind a 5 odds 98;kind b 5 odds 99;kind c 5 odds 99;kind d 6 odds 99;", 1);
        likeliest("pond 1 1;cork m 0 0;kind a 5;kind b 6 odds 99;kind c 7 odds 99;kind d 5 odds 2;", 3);
        PondReader x = Tape.reader("pond 3 2;land 0 0;kind a 1 odds 3;kind b 1 odds 3;kind c 1 odds 2;");
        due("its kind", x.likeliest(0), 0);
        due("its first cell", x.likeliest(1), 1);
        due("its first step", x.likeliest(2), 0);
        PondReader one = Tape.reader("pond 3 1;loss 0;kind a 5;kind b 4;cork m 0 0;");
        one.note(0, 0, 4);
        due("one tale", one.tales(), 1);
        due("its kind", one.likeliest(0) * 100 + one.likeliest(1) * 10 + one.likeliest(2), 100);
        PondReader far = Tape.reader("pond 3 1;loss 0;kind a 5;cork m 2 0;");
        far.note(0, 2, 5);
        due("its first cell", far.likeliest(1), 0);
        due("and the step of this", far.likeliest(2), 0);
    }

    private static void likeliest(String text, int kind) {
        PondReader x = Tape.reader(text);
        x.note(0, 1, 5);
        due("likeliest(0) of " + text, x.likeliest(0), kind);
        due("likeliest(2) of " + text, x.likeliest(2), 1);
    }

    // "-2: there are no TALES; NONE for another what."
    private static void promise27NoTales() {
        PondReader x = Tape.reader(CELL);
        for (int what = 0; what < 3; what++) {
            due("likeliest(" + what + ")", x.likeliest(what), 0);
            due("a new object", new PondReader().likeliest(what), -2);
        }
        x.note(0, 0, 1);
        for (int what = 0; what < 3; what++) {
            due("likeliest(" + what + ") without", x.likeliest(what), -2);
        }
        for (int what : new int[] {-1, 3, Integer.MIN_VALUE, Integer.MAX_VALUE}) {
            due("likeliest(" + what + ") without", x.likeliest(what), NONE);
            due("likeliest(" + what + ")", Tape.reader(CELL).likeliest(what), NONE);
        }
    }

    // "FITS: MAY (bits; the bit behind all: the shores as they are)": none to three of them
    private static void promise28BitBehindAll() {
        due("no may", new PondReader().fits(), 1);
        due("one", Tape.reader("may a;").fits(), 3);
        due("two", Tape.reader("may a;may b;").fits(), 7);
        due("three", Tape.reader("may a;may b;may c;").fits(), 15);
        String text = "pond 1 1;kind k 8;cork c 0 0;drop k 0 0 0;may a;may b shore 0 0;may c;";
        PondReader x = Tape.reader(text);
        x.note(0, 0, 12);
        due("by the second alone", x.fits(), 2);
        x.strike(0);
        x.note(0, 0, 8);
        due("by all others", x.fits(), 13);
        x.note(0, 0, 12);
        due("by none", x.fits(), 0);
        PondReader shore = Tape.reader(text + "shore 0 0;");
        shore.note(0, 0, 12);
        due("as they are, and by the second", shore.fits(), 10);
        shore.strike(0);
        shore.note(0, 0, 8);
        due("by those without", shore.fits(), 5);
    }

    // "shores that it may have instead (at most 3 each ..)": instead of those as they are, all three
    private static void promise28ThreeShoresInstead() {
        PondReader x = Tape.reader("pond 3 1;loss 0;kind k 8;cork c 0 0;drop k 0 0 0;shore 1 0;"
            + "may a shore 0 0 shore 1 0 shore 2 0;may b shore 2 0;");
        x.note(0, 4, 4);
        due("a shore at 2", x.fits(), 3);
        x.note(0, 2, 4);
        due("and one at 1", x.fits(), 1);
        x.note(0, 0, 12);
        due("and one at 0", x.fits(), 1);
        x.known(0);
        due("known by none", x.fits(), 7);
        x.known(-1);
        x.fall(0, 0, 0);
        due("with all drops", x.fits(), 0);
    }

    // "with all DROPS": none, and those that come by call
    private static void promise28WithAllDrops() {
        PondReader x = Tape.reader("pond 1 1;kind k 8;cork c 0 0;");
        x.note(0, 99, 0);
        due("no drops", x.fits(), 1);
        x.fall(0, 0, 99);
        due("one", x.fits(), 0);
        x.undo();
        due("undone", x.fits(), 1);
        x.strike(0);
        x.note(0, 99, 16 * 8);
        for (int i = 0; i < 16; i++) {
            due("too few", x.fits(), 0);
            x.fall(0, 0, 99);
        }
        due("16", x.fits(), 1);
    }

    // "some CELLS (1 .. 6 of them, eight bits each, the first lowest, each once, of the water)"
    private static void promise29OneToSixCells() {
        PondReader x = Tape.reader("pond 8 6;kind k 50;cork c 0 0;loss 1;land 6 5;");
        due("n 0", x.apart(1, 0, 0), NONE);
        due("n 0", x.apart(1, 0, 0x050403020100L), NONE);
        due("n 1", x.apart(1, 1, 0x050403020100L), 0);
        for (int n = 2; n <= 6; n++) {
            due("n " + n, x.apart(1, n, 0x050403020100L), 1);
        }
        for (int n : new int[] {7, 8, -1, Integer.MIN_VALUE, Integer.MAX_VALUE}) {
            due("n " + n, x.apart(1, n, 0x07060504030201L), NONE);
        }
        for (int at = 0; at < 6; at++) {
            long some = 0x050403020100L;
            long others = some & ~(255L << 8 * at);
            due("the last cell at " + at, x.apart(1, 6, others | 47L << 8 * at), 1);
            for (long wrong : new long[] {46, 48, 63, 64, 65, 128, 255}) {
                due(wrong + " at " + at, x.apart(1, 6, others | wrong << 8 * at), NONE);
                due(wrong + " behind those asked", x.apart(1, 1, (wrong << 8) + 47), 0);
            }
            for (int twice = 0; twice < 6; twice++) {
                long cells = others | (long) twice << 8 * at;
                due(twice + " at " + at, x.apart(1, 6, cells), twice == at ? 1 : NONE);
            }
        }
    }

    // "the first lowest": which cells are asked is told by the lowest bits
    private static void promise29FirstLowest() {
        PondReader x = Tape.reader(ROW);
        due("1 and 3 look alike", x.apart(1, 2, 0x000301), -2);
        due("0 and 3, then 1", x.apart(1, 2, 0x010300L), 1);
        due("all three", x.apart(1, 3, 0x000301L), -2);
        due("bits above are not looked at", x.apart(1, 2, 0xffffffffffff0300L), 1);
    }

    // "NONE: no such ones (no KINDS)"
    private static void promise29NoSuchKinds() {
        String one = "pond 1 1;cork c 0 0;kind a 1;";
        int[] most = {2, 4, 8, 16};
        String[] more = {"", "kind b 2;", "kind b 2;kind c 3;", "kind b 2;kind c 3;kind d 4;"};
        for (int i = 0; i < 4; i++) {
            PondReader x = Tape.reader(one + more[i]);
            due("no kinds", x.apart(0, 1, 0), NONE);
            due("all kinds", x.apart(most[i] - 1, 1, 0), i == 0 ? 0 : 1);
            due("the last kind alone", x.apart(most[i] / 2, 1, 0), 0);
            for (int kinds : new int[] {most[i], most[i] + 1, 32, 1 << 30, 1 << 31, -1, Integer.MAX_VALUE}) {
                due("kinds " + kinds, x.apart(kinds, 1, 0), NONE);
            }
        }
        due("no kinds told", Tape.reader("cork c 0 0;").apart(1, 1, 0), NONE);
        due("no kinds told, none asked", Tape.reader("cork c 0 0;").apart(0, 1, 0), NONE);
    }

    // "the fewest CORKS (then the least bits)"; "-2: not by all"
    private static void promise29FewestThenLeast() {
        String row = "pond 5 1;loss 0;kind k 9;";
        long cells = 0x040200;
        due("any two of three", Tape.reader(row + "cork a 1 0;cork b 3 0;cork c 2 0;").apart(1, 3, cells), 3);
        due("two alike", Tape.reader(row + "cork a 1 0;cork b 1 0;cork c 3 0;").apart(1, 3, cells), 5);
        due("one ahead of two of lesser bits", Tape.reader(row + "cork a 1 0;cork b 3 0;cork c 0 0;").apart(1, 3, cells), 4);
        due("the least of two", Tape.reader(row + "cork a 1 0;cork b 0 0;cork c 4 0;").apart(1, 3, cells), 2);
        due("the sixth", Tape.reader(row + "cork a 1 0;cork b 1 0;cork c 1 0;cork d 1 0;cork e 1 0;cork f 0 0;")
            .apart(1, 3, cells), 32);
        due("the first and the sixth", Tape.reader(row + "cork a 1 0;cork b 1 0;cork c 1 0;cork d 1 0;cork e 1 0;"
            + "cork f 3 0;").apart(1, 3, cells), 33);
        due("not by all", Tape.reader(row + "cork a 1 0;cork b 1 0;").apart(1, 3, cells), -2);
        due("no corks", Tape.reader(row).apart(1, 2, 0x0100), -2);
        due("no corks, one drop", Tape.reader(row).apart(1, 1, 4), 0);
        due("one drop", Tape.reader(row + "cork a 1 0;").apart(1, 1, 4), 0);
        due("no way to the cork", Tape.reader("pond 4 1;land 1 0;kind k 9;cork a 0 0;").apart(1, 2, 0x0302), -2);
    }

    // "for each two of them": KINDS and CELLS all with one another
    private static void promise29EachTwo() {
        PondReader x = Tape.reader("pond 5 1;loss 0;kind a 9;kind b 9 0;kind c 8;kind d 0 9;cork m 0 0;");
        due("two kinds that show the same", x.apart(3, 1, 0), -2);
        due("two that don't", x.apart(5, 1, 0), 1);
        due("one as the other a cell further", x.apart(9, 2, 0x0100), -2);
        due("in one cell", x.apart(9, 1, 0x00), 1);
        due("in cells two apart", x.apart(9, 2, 0x0200), 1);
        due("the first and the last of five", x.apart(9, 5, 0x0403020100L), -2);
        due("three of four kinds in two cells", x.apart(13, 2, 0x0200), 1);
    }

    // All four KINDS in six CELLS, the most that can be asked.
    private static void promise29FourKindsInSixCells() {
        String kinds = "kind a 50;kind b 51;kind c 52;kind d 53;";
        PondReader x = Tape.reader("pond 4 4;loss 1;" + kinds + "cork o 0 0;cork p 3 0;");
        due("by both", x.apart(15, 6, 0x05040b03070fL), 3);
        PondReader row = Tape.reader("pond 6 1;loss 0;" + kinds + "cork o 0 0;cork p 5 0;");
        due("by the first", row.apart(15, 6, 0x050403020100L), 1);
        PondReader alike = Tape.reader("pond 6 1;loss 0;" + kinds.replace("53", "50") + "cork o 0 0;cork p 5 0;");
        due("the first and the last kind are alike", alike.apart(15, 6, 0x050403020100L), -2);
        due("but not to others", alike.apart(7, 6, 0x050403020100L), 1);
        PondReader late = Tape.reader("pond 6 1;loss 0;kind a 1 0 0 0 0;kind b 2;kind c 3;kind d 0 0 0 0 0 1;cork o 0 0;");
        due("the first kind in the last cell is as the last kind in the first", late.apart(15, 6, 0x000403020105L), -2);
        due("not without the first cell", late.apart(15, 5, 0x0504030201L), 1);
    }

    // "RISE of a CELL in a STEP: .. directly and by each SHORE", of DROPS alone, too: 0 and 2 are as far from the cork
    private static void promise29ByAShore() {
        String text = "pond 3 1;loss 0;kind k 10;cork c 1 0;";
        due("without", Tape.reader(text).apart(1, 2, 2 << 8), -2);
        due("by a shore", Tape.reader(text + "shore 0 0;").apart(1, 2, 2 << 8), 1);
        due("by one between them", Tape.reader(text + "shore 1 0;").apart(1, 2, 2 << 8), -2);
        due("not by one that may be", Tape.reader(text + "may m shore 0 0;").apart(1, 2, 2 << 8), -2);
    }

    // "in some STEP 0 .. 30"
    private static void promise29LastStep() {
        PondReader x = Tape.reader(maze() + "kind a 0 0 0 0 0 9;kind b 0 0 0 0 0 8;kind c 0 0 0 0 9;kind d 0 0 0 0 8;"
            + "cork c 0 0;");
        due("step 30", x.apart(3, 1, 39), 1);
        due("step 31", x.apart(3, 1, 47), -2);
        due("step 30", x.apart(12, 1, 47), 1);
        PondReader zero = Tape.reader("pond 1 1;kind a 9;kind b 8;cork c 0 0;");
        due("step 0", zero.apart(3, 1, 0), 1);
    }

    // "the least sum of differences without sign, then the first"
    private static void promise30OfSeveralTheFirst() {
        PondReader row = Tape.reader(ROW);
        due("1 as 3", row.looks(0, 0, 3, 0), 1);
        due("the sum", row.looks(0, 0, 3, 1), 0);
        due("all alike", row.looks(1, 0, 1, 0), 0);
        due("without sign", row.looks(1, 0, 1, 1), 20);
        due("without sign, the other way", row.looks(0, 1, 1, 1), 20);
        PondReader x = Tape.reader("pond 3 2;loss 0;land 0 0;kind a 5;kind b 6 -1;cork y 1 0;cork z 2 0;");
        due("the sum over corks", x.looks(0, 1, 2, 1), 2 + 2);
        due("the cell", x.looks(0, 1, 2, 0), 2);
        due("the other kind is in the told cell", x.looks(1, 0, 5, 0), 5);
        PondReader none = Tape.reader("land 0 0;kind a 1;");
        due("no corks: the first of the water", none.looks(0, 0, 9, 0), 1);
        due("no corks: the sum", none.looks(0, 0, 9, 1), 0);
    }

    // "of a KIND alone in STEP 0 the CELL .. nearest to another KIND's in a told CELL": the first KIND's CELL is sought, the
    // other one's is told. 50 comes from cell 1 as 45 in step 1, which is what "0 45" in cell 0 shows.
    private static void promise30TheFirstKindIsSought() {
        PondReader x = Tape.reader("pond 3 1;kind a 0 45;kind b 50;cork c 0 0;");
        due("b as a in 0", x.looks(1, 0, 0, 0), 1);
        due("b as a in 0, the sum", x.looks(1, 0, 0, 1), 0);
        due("a as b in 0", x.looks(0, 1, 0, 0), 2);
        due("a as b in 0, the sum", x.looks(0, 1, 0, 1), 36 + 50);
    }

    // By a SHORE in 0 a drop in 0 shows 15 in step 1, one in 2 shows 10 in step 1 and 5 in step 3.
    private static void promise30ByAShore() {
        String text = "pond 3 1;loss 0;kind k 10;cork c 1 0;";
        due("without, the cell", Tape.reader(text).looks(0, 0, 2, 0), 0);
        PondReader x = Tape.reader(text + "kind j 15;shore 0 0;");
        due("the cell", x.looks(0, 0, 2, 0), 2);
        due("the sum", x.looks(0, 0, 2, 1), 0);
        due("another kind: 22 in step 1 is as near as 15 and 7 later", x.looks(1, 0, 0, 0), 0);
        due("another kind, the sum", x.looks(1, 0, 0, 1), 7);
        due("not by one that may be", Tape.reader(text + "may m shore 0 0;").looks(0, 0, 2, 0), 0);
    }

    // "in STEPS 0 .. 30"
    private static void promise30LastStep() {
        PondReader x = Tape.reader(maze() + "kind a 0 0 0 0 0 9;kind b 0 0 0 0 0 8;cork c 0 0;drop a 0 0 0;");
        due("step 30", x.looks(0, 1, 39, 0), 39);
        due("step 30, the sum", x.looks(0, 1, 39, 1), 1);
        due("step 30, the other way round", x.looks(1, 0, 46, 1), 1);
        due("step 31", x.looks(0, 1, 47, 0), 47);
        due("step 31, the sum", x.looks(0, 1, 47, 1), 0);
        PondReader zero = Tape.reader("pond 1 1;kind a 9;kind b 8;cork c 0 0;");
        due("step 0", zero.looks(0, 1, 0, 1), 1);
    }

    // "NONE: no such ones."
    private static void promise30NoSuchOnes() {
        PondReader x = Tape.reader("pond 3 2;land 1 1;kind a 5;kind b 6;kind c 7;kind d 8;cork y 0 0;");
        due("the last kinds and cell", x.looks(3, 3, 5, 0), 5);
        for (int kind : OFF) {
            due("kind " + kind, x.looks(kind, 0, 0, 0), NONE);
            due("like " + kind, x.looks(0, kind, 0, 0), NONE);
        }
        for (int cell : new int[] {4, 6, 48, 64, -1, Integer.MIN_VALUE, Integer.MAX_VALUE}) {
            due("cell " + cell, x.looks(0, 0, cell, 0), NONE);
            due("cell " + cell, x.looks(0, 0, cell, 1), NONE);
        }
        for (int what : new int[] {-1, 2, Integer.MIN_VALUE, Integer.MAX_VALUE}) {
            due("what " + what, x.looks(0, 0, 0, what), NONE);
        }
    }

    // "in STEPS 0 .. to (0 .. 60)"
    private static void promise31FirstAndLastStep() {
        PondReader x = Tape.reader(ROW);
        int[] due = {0b11110, 0b11100, 0b11000, 0b10000, 0};
        for (int to = 0; to < 5; to++) {
            due("to " + to, x.still(0, 0, 0, 0, to), due[to]);
        }
        due("to 60", x.still(0, 0, 1, 0, 60), 31);
        for (int to : new int[] {-1, 61, Integer.MIN_VALUE, Integer.MAX_VALUE}) {
            due("to " + to, x.still(0, 0, 1, 4, to), NONE);
        }
    }

    // A ripple that comes by the shore in STEP 60 alone: directly the two drops make up for one another.
    private static void promise31StepSixty() {
        StringBuilder snake = new StringBuilder("pond 8 6;loss 0;thick 50;sent 99;reed 0 0;shore 7 0;land 6 3;land 7 1;");
        for (int y = 0; y < 5; y++) {
            snake.append("land 1 " + y + ";land 3 " + (y + 1) + ";land 5 " + y + ";");
        }
        PondReader x = Tape.reader(snake + "kind a 0 0 0 50;kind b 0 0 0 -51;kind c 0 0 0 0 50;kind d 0 0 0 0 -51;");
        due("how far it is to the shore", x.far(8, 7) * 100 + x.far(7, 0), 2829);
        due("to 59", x.still(0, 8, 1, 8, 59) & 1, 1);
        due("to 60", x.still(0, 8, 1, 8, 60) & 1, 0);
        due("step 61", x.still(2, 8, 3, 8, 60) & 1, 1);
    }

    // "CELLS of the water that have no RISE .. by two DROPS alone" (bits of CELLS)
    private static void promise31BitsOfCells() {
        PondReader x = Tape.reader(ROW + "drop up 0 0 0;");
        due("where both make up for one another", x.still(0, 0, 1, 4, 5), 4);
        due("without all others", x.still(1, 4, 1, 4, 0), 15);
        PondReader wide = Tape.reader("pond 8 6;land 7 4;kind k 1;kind n 0;");
        due("all but land and the drop's cell", wide.still(0, 0, 0, 0, 0), (1L << 48) - 2 - (1L << 39));
        due("the last cell, too", wide.still(1, 0, 1, 47, 60), (1L << 48) - 1 - (1L << 39));
        due("but where it falls", wide.still(0, 47, 0, 47, 0), (1L << 47) - 1 - (1L << 39));
        due("one cell", Tape.reader("pond 1 1;kind k 0;").still(0, 0, 0, 0, 60), 1);
    }

    // Directly the two are even in cell 1 in step 1; by a SHORE in 0 one comes in step 1, the other in step 3.
    private static void promise31ByAShore() {
        String text = "pond 3 1;loss 0;kind up 10;kind down -10;";
        PondReader without = Tape.reader(text + "may m shore 0 0;");
        due("without", without.still(0, 0, 1, 2, 60), 2);
        PondReader x = Tape.reader(text + "shore 0 0;");
        due("step 0", x.still(0, 0, 1, 2, 0), 2);
        due("by the first", x.still(0, 0, 1, 2, 1), 0);
        due("by the other", x.still(1, 2, 0, 0, 1), 0);
        due("the later one alone", x.still(1, 2, 1, 2, 0), 3);
        PondReader both = Tape.reader(text + "shore 1 0;");
        due("even by the shore, too", both.still(0, 0, 1, 2, 60), 2);
    }

    // "NONE: no such ones."
    private static void promise31NoSuchOnes() {
        PondReader x = Tape.reader("pond 3 2;land 1 1;kind a 5;kind b 6;kind c 7;kind d 8;");
        for (int kind : OFF) {
            due("kind " + kind, x.still(kind, 0, 0, 0, 0), NONE);
            due("other " + kind, x.still(0, 0, kind, 0, 0), NONE);
        }
        for (int cell : new int[] {4, 6, 48, 64, -1, Integer.MIN_VALUE, Integer.MAX_VALUE}) {
            due("cell " + cell, x.still(0, cell, 0, 0, 0), NONE);
            due("there " + cell, x.still(0, 0, 0, cell, 0), NONE);
        }
        due("the last ones", x.still(3, 5, 3, 5, 0), 0b001111);
    }

    // "CHANCE of a KIND (n 1 .. 9 DROPS) at a CORK in a STEP 0 .. 40", "the seed, 0 .. 2147483647"
    private static void promise32NoSuchOnes() {
        PondReader x = Tape.reader("pond 1 1;kind a 1;kind b 1;kind c 1;kind d 1;cork p 0 0;cork q 0 0;cork r 0 0;"
            + "cork s 0 0;");
        for (int kind : OFF) {
            due("kind " + kind, x.chance(0, kind, 1, 0, 0), NONE);
            due("cork " + kind, x.chance(0, 0, 1, kind, 0), NONE);
        }
        for (int n : new int[] {0, 10, -1, Integer.MIN_VALUE, Integer.MAX_VALUE}) {
            due("n " + n, x.chance(0, 0, n, 0, 0), NONE);
        }
        for (int step : new int[] {-1, 41, Integer.MIN_VALUE, Integer.MAX_VALUE}) {
            due("step " + step, x.chance(0, 0, 1, 0, step), NONE);
        }
        for (int seed : new int[] {-1, -2, Integer.MIN_VALUE}) {
            due("seed " + seed, x.chance(seed, 0, 1, 0, 0), NONE);
        }
        due("the last kind and cork", x.chance(0, 3, 1, 3, 12), 2);
        due("step 40", x.chance(0, 0, 9, 0, 40), 0);
    }

    private static void chances(String text, int seed, int n, int... due) {
        PondReader x = Tape.reader(text);
        for (int step = 0; step < due.length; step++) {
            due("chance(" + seed + ", 0, " + n + ", 0, " + step + ") of " + text, x.chance(seed, 0, n, 0, step), due[step]);
        }
    }

    // The least and the greatest seed; "a number modulo 16 its STEP": none of step 16.
    private static void promise32LeastAndGreatestSeed() {
        String one = "pond 1 1;kind a 1;cork c 0 0;";
        chances(one, 0, 1, 0, 0, 0, 1, 0, 1, 0, 0, 0, 1, 1, 0, 2, 2, 1, 1, 0);
        chances(one, 1, 1, 0, 0, 0, 0, 0, 0, 1, 1, 0, 0, 0, 3, 1, 0, 2, 2, 0);
        chances(one, 2147483646, 1, 0, 1, 2, 0, 0, 0, 3, 0, 1, 0, 1, 0, 2, 0, 0, 0, 0);
        chances(one, 2147483647, 1, 1, 0, 2, 0, 0, 0, 0, 0, 0, 2, 0, 0, 0, 1, 3, 1, 0);
    }

    // "n 1 .. 9", "ten draws": all ten, and each n has draws of its own
    private static void promise32OneToNineDrops() {
        int[] due = {0, 0, 0, 0, 1, 2, 3, 3, 2};
        PondReader x = Tape.reader("pond 1 1;kind a 1;cork c 0 0;");
        for (int n = 1; n <= 9; n++) {
            due("n " + n, x.chance(7, 0, n, 0, 7), due[n - 1]);
        }
        chances("pond 1 1;kind a 1 1 1 1 1 1;cork c 0 0;", 7, 9, 4, 9, 10, 10, 10, 10, 9, 10, 9, 9, 9, 9, 9, 9, 9, 10, 10,
            7, 7, 7, 4, 0);
    }

    // "a number modulo all CELLS (on land: nothing falls, no more numbers for it)"
    private static void promise32OnLand() {
        chances("pond 2 1;loss 0;kind a 1;cork c 0 0;", 1, 3, 0, 0, 2, 1, 1, 1, 3, 1, 3, 3, 2, 1, 4, 0, 1, 3, 3, 0);
        chances("pond 2 1;land 1 0;kind a 1;cork c 0 0;", 1, 3, 0, 0, 0, 0, 0, 2, 3, 1, 1, 1, 0, 1, 2, 0, 1, 1, 0);
        chances("pond 2 1;land 0 0;kind a 1;cork c 1 0;", 1, 3, 0, 1, 0, 0, 1, 0, 1, 2, 0, 1, 1, 3, 0, 0, 1, 3, 0);
    }

    // "a RISE above 0": 0 is none, nor is what makes up for another one; all other DROPS are left out
    private static void promise32AboveZero() {
        chances("pond 1 1;kind a 5 -5;cork c 0 0;", 3, 2, 2, 2, 1, 1, 1, 1, 1, 1, 2, 1, 1, 0, 3, 0, 1, 1, 0);
        chances("pond 1 1;kind a -5 5;cork c 0 0;", 3, 2, 0, 2, 2, 1, 1, 1, 1, 1, 1, 2, 1, 1, 0, 3, 0, 1, 1, 0);
        for (String kind : new String[] {"0", "-1", "0 0 0 0 0 0", "-99-99-99-99-99-99"}) {
            chances("pond 1 1;kind a " + kind + ";cork c 0 0;", 7, 9, new int[41]);
        }
        PondReader x = Tape.reader("pond 1 1;kind a 0;kind b 99 99 99 99 99 99;cork c 0 0;" + "drop b 0 0 5;".repeat(8));
        due("drops alone", x.chance(7, 0, 9, 0, 7), 0);
        due("they fell nowhere", x.count(5), 8);
    }

    // "n DROPS .. shows a RISE above 0": what they show together, not one of them
    private static void promise32DropsAreAddedUp() {
        chances("pond 1 1;kind a 1 -1;cork c 0 0;", 7, 9, 4, 5, 3, 2, 3, 3, 2, 1, 4, 2, 2, 2, 1, 1, 4, 3, 0, 0);
        chances("pond 1 1;kind a 1 -99;cork c 0 0;", 7, 9, 4, 5, 1, 2, 3, 3, 2, 1, 4, 1, 2, 2, 1, 1, 3, 3, 0, 0);
    }

    // By a SHORE in 1 a drop in 0 comes back to 0 two steps later.
    private static void promise32ByAShore() {
        String text = "pond 2 1;loss 0;kind a 2;cork c 0 0;";
        chances(text, 1, 3, 0, 0, 2, 1, 1, 1, 3, 1, 3, 3, 2, 1, 4, 0, 1, 3, 3, 0, 0, 0);
        chances(text + "shore 1 0;", 1, 3, 0, 0, 2, 1, 3, 2, 4, 2, 6, 3, 2, 2, 4, 1, 2, 3, 4, 1, 0, 0);
    }

    // "in a STEP 0 .. 40": by a long way there is a RISE in the last one
    private static void promise32LastStep() {
        chances(maze() + "kind a 1 1 1 1 1 1;cork c 0 0;", 0, 9, 0, 0, 0, 0, 0, 0, 2, 2, 2, 3, 3, 4, 3, 4, 6, 8, 9, 9, 8, 7,
            6, 5, 5, 5, 7, 7, 6, 7, 7, 6, 6, 7, 6, 6, 6, 7, 8, 9, 9, 9, 8, NONE);
    }
}
