/** Promises 7 to 13, 19 to 21 and 33 to 35 at their boundaries: cells, ripples, changes, images, counts. */
public final class EdgesOfWaterTest {
    private static final int NONE = PondReader.NONE;
    private static final int NO_INT = Integer.MIN_VALUE;
    private static final int[] FAR_OFF = {-1, -2, -64, 64, 66, 256, Integer.MIN_VALUE, Integer.MAX_VALUE};
    /**
     * <pre>
     * 0 1 r 3     x: cork at 0, y: cork at 3, r: reeds at 2, #: land at 5
     * 4 # 6 7     the shore at 11, a fly at 4 in step 2
     * 8 9 . =
     * </pre>
     */
    private static final String POND = "pond 4 3;land 1 1;reed 2 0;shore 3 2;kind fly 10 - 5;kind stone 50 20 odds 3;"
        + "cork x 0 0;cork y 3 0;skater s 0 2;drop fly 0 1 2;";

    private EdgesOfWaterTest() {
    }

    public static void main(String[] args) {
        Suite.run(EdgesOfWaterTest.class, 7, 8, 9, 10, 11, 12, 13, 19, 20, 21, 33, 34, 35);
    }

    private static void due(String call, long got, long want) {
        Suite.due(call, got, want);
    }

    private static void due(String call, boolean got, boolean want) {
        Suite.due(call, got, want);
    }

    /** 8 times 6 cells with a way of 26 from cell 0 to cell 47. */
    private static String maze() {
        StringBuilder text = new StringBuilder("pond 8 6;loss 0;");
        for (int x = 0; x < 7; x++) {
            text.append("land " + x + " 1;land " + (x + 1) + " 3;");
        }
        return text.toString();
    }

    private static String reeds(int n) {
        StringBuilder text = new StringBuilder("pond 8 6;kind k 1;");
        for (int i = 0; i < n; i++) {
            text.append("reed " + i % 8 + " " + i / 8 + ";");
        }
        return text.toString();
    }

    // "NONE: no such ones": cells
    private static void promise07NoSuchCell() {
        String[] texts = {"", "pond 8 6;", "pond 1 1;", "pond 8 1;", "pond 1 6;", "pond 3 5;"};
        int[] cells = {16, 48, 1, 8, 6, 15};
        for (int i = 0; i < texts.length; i++) {
            PondReader x = Tape.reader(texts[i]);
            for (int what = 0; what < 4; what++) {
                int last = what == 2 ? NONE : 0;
                due("cell(" + (cells[i] - 1) + ", " + what + ")", x.cell(cells[i] - 1, what), last);
                due("cell(" + cells[i] + ", " + what + ")", x.cell(cells[i], what), NONE);
                for (int cell : FAR_OFF) {
                    due("cell(" + cell + ", " + what + ")", x.cell(cell, what), NONE);
                }
            }
        }
    }

    // "NONE: no such ones": what
    private static void promise07NoSuchWhat() {
        PondReader x = Tape.reader(POND);
        for (int what : new int[] {-1, 4, 5, Integer.MIN_VALUE, Integer.MAX_VALUE}) {
            for (int cell : new int[] {0, 2, 4, 5, 11}) {
                due("cell(" + cell + ", " + what + ")", x.cell(cell, what), NONE);
            }
        }
    }

    // "Of a CELL now, what 0: 0 water, 1 reeds, 2 land"
    private static void promise07WaterReedsLandNow() {
        PondReader x = Tape.reader(POND + "reed 3 2;");
        int[] due = {0, 0, 1, 0, 0, 2, 0, 0, 0, 0, 0, 1};
        for (int cell = 0; cell < 12; cell++) {
            due("cell(" + cell + ", 0)", x.cell(cell, 0), due[cell]);
        }
        x.keep();
        x.cut(2);
        due("cut", x.cell(2, 0), 0);
        x.undo();
        due("undone", x.cell(2, 0), 1);
        x.cut(2);
        x.back();
        due("as in the image", x.cell(2, 0), 1);
        PondReader corner = Tape.reader("pond 8 6;reed 7 5;land 0 0;");
        due("the last cell", corner.cell(47, 0), 1);
        due("the first cell", corner.cell(0, 0), 2);
    }

    // "1: whether it is a SHORE"; "shores that it may have instead" are none
    private static void promise07ShoresAsTheyAre() {
        PondReader x = Tape.reader("shore 0 0;shore 3 3;shore 1 0;may m shore 2 0;reed 1 0;");
        int[] cells = {0, 1, 2, 15, 14};
        int[] due = {1, 1, 0, 1, 0};
        for (int i = 0; i < cells.length; i++) {
            due("cell(" + cells[i] + ", 1)", x.cell(cells[i], 1), due[i]);
        }
    }

    // "2: the first CORK there (NONE)"
    private static void promise07FirstCork() {
        PondReader x = Tape.reader("cork f 1 0;cork e 0 0;cork d 0 0;cork c 1 0;cork b 3 3;cork a 2 0;");
        int[] cells = {0, 1, 2, 15, 3, 4};
        int[] due = {1, 0, 5, 4, NONE, NONE};
        for (int i = 0; i < cells.length; i++) {
            due("cell(" + cells[i] + ", 2)", x.cell(cells[i], 2), due[i]);
        }
    }

    // "3: how many DROPS fell there"
    private static void promise07DropsThere() {
        PondReader x = Tape.reader("kind k 1;" + "drop k 1 1 0;".repeat(8));
        due("told ones", x.cell(5, 3), 8);
        for (int i = 9; i <= 16; i++) {
            x.fall(0, 5, 99);
            due("told ones and others", x.cell(5, 3), i);
        }
        x.fall(0, 5, 99);
        due("a 17th is none", x.cell(5, 3), 16);
        x.undo();
        due("one is undone", x.cell(5, 3), 15);
        due("none fell there", x.cell(4, 3), 0);
        x.fall(0, 4, 0);
        due("one fell there", x.cell(4, 3), 1);
    }

    // "NONE: no such ones."
    private static void promise08NoSuchDrop() {
        PondReader x = Tape.reader("kind k 1;kind j 1;");
        for (int what = 0; what < 3; what++) {
            due("no drops", x.drop(0, what), NONE);
        }
        for (int i = 0; i < 16; i++) {
            x.fall(i % 2, i, i == 0 ? 0 : 84 + i);
            due("behind the last one", x.drop(i + 1, 0), NONE);
        }
        for (int i = 0; i < 16; i++) {
            due("drop(" + i + ", 0)", x.drop(i, 0), i % 2);
            due("drop(" + i + ", 1)", x.drop(i, 1), i);
            due("drop(" + i + ", 2)", x.drop(i, 2), i == 0 ? 0 : 84 + i);
            for (int what : new int[] {-1, 3, Integer.MIN_VALUE, Integer.MAX_VALUE}) {
                due("drop(" + i + ", " + what + ")", x.drop(i, what), NONE);
            }
        }
        for (int drop : new int[] {-1, 16, 17, Integer.MIN_VALUE, Integer.MAX_VALUE}) {
            due("drop(" + drop + ", 0)", x.drop(drop, 0), NONE);
        }
        x.undo();
        due("one that is undone", x.drop(15, 0), NONE);
        x.text(0);
        due("of the text ahead", x.drop(0, 0), NONE);
    }

    // "DROPS, at most 8 (of a KIND, the STEP 0 .. 99)", "All numbered as they come": told ones ahead of those by call
    private static void promise08NumberedAsTheyCome() {
        StringBuilder text = new StringBuilder("pond 8 6;kind a 1;kind b 1;kind c 1;kind d 1;");
        for (int i = 0; i < 8; i++) {
            text.append("drop " + (char) ('d' - i % 4) + " " + (7 - i) + " " + i % 6 + " " + (99 - i * 14) + ";");
        }
        PondReader x = Tape.reader(text.toString());
        due("the next one by call", x.fall(3, 47, 98), 8);
        for (int i = 0; i < 8; i++) {
            due("drop(" + i + ", 0)", x.drop(i, 0), 3 - i % 4);
            due("drop(" + i + ", 1)", x.drop(i, 1), i % 6 * 8 + 7 - i);
            due("drop(" + i + ", 2)", x.drop(i, 2), 99 - i * 14);
        }
        due("the one by call", x.drop(8, 0) * 10000 + x.drop(8, 1) * 100 + x.drop(8, 2), 34798);
    }

    // "FAR", of a CELL and itself, over the whole pond, round land, not over the pond's edge
    private static void promise09FarAtTheEdges() {
        PondReader x = Tape.reader("pond 8 6;");
        due("far(0, 0)", x.far(0, 0), 0);
        due("far(47, 47)", x.far(47, 47), 0);
        due("far(0, 47)", x.far(0, 47), 12);
        due("far(47, 0)", x.far(47, 0), 12);
        due("no way from a row's end to the next row's begin", x.far(7, 8), 8);
        due("nor back", x.far(8, 7), 8);
        due("no way from the last row to the first", x.far(40, 0), 5);
        due("one to the right", x.far(6, 7), 1);
        due("one down", x.far(7, 15), 1);
        due("one cell", Tape.reader("pond 1 1;").far(0, 0), 0);
        due("a row", Tape.reader("pond 8 1;").far(7, 0), 7);
        due("a pillar", Tape.reader("pond 1 6;").far(0, 5), 5);
        due("round land", Tape.reader("pond 3 3;land 1 0;land 1 1;").far(0, 2), 6);
        due("the longest way round", Tape.reader(maze()).far(0, 47), 26);
    }

    // "-2: no way"
    private static void promise09NoWay() {
        PondReader x = Tape.reader("pond 3 3;land 1 0;land 1 1;land 1 2;");
        for (int one : new int[] {0, 3, 6}) {
            for (int other : new int[] {2, 5, 8}) {
                due("far(" + one + ", " + other + ")", x.far(one, other), -2);
                due("far(" + other + ", " + one + ")", x.far(other, one), -2);
                due("weak(" + one + ", " + other + ")", x.weak(one, other), -2);
            }
        }
        due("not aslant", Tape.reader("pond 2 2;land 1 0;land 0 1;").far(0, 3), -2);
    }

    // "NONE: no such CELLS of the water"
    private static void promise09NoSuchCellsOfTheWater() {
        PondReader x = Tape.reader("pond 3 3;land 1 0;land 1 1;land 1 2;");
        for (int land : new int[] {1, 4, 7, 9, 10, 48, -1, 64, Integer.MIN_VALUE, Integer.MAX_VALUE}) {
            due("far(" + land + ", 0)", x.far(land, 0), NONE);
            due("far(0, " + land + ")", x.far(0, land), NONE);
            due("far(" + land + ", " + land + ")", x.far(land, land), NONE);
            due("weak(" + land + ", 0)", x.weak(land, 0), NONE);
            due("weak(0, " + land + ")", x.weak(0, land), NONE);
            due("weak(" + land + ", " + land + ")", x.weak(land, land), NONE);
        }
        PondReader dry = Tape.reader("pond 1 1;land 0 0;");
        due("no water at all", dry.far(0, 0), NONE);
    }

    // "thick for each CELL with reeds on the way (its last one counts, its first doesn't)"
    private static void promise10LastCountsFirstDoesNot() {
        PondReader x = Tape.reader("pond 4 1;reed 0 0;reed 2 0;");
        int[][] due = {{0, 0, 0}, {0, 1, 10}, {1, 0, 40}, {0, 2, 50}, {2, 0, 50}, {2, 2, 0}, {1, 2, 40}, {2, 1, 10},
            {0, 3, 60}, {3, 0, 90}, {1, 3, 50}, {2, 3, 10}, {3, 2, 40}};
        for (int[] d : due) {
            due("weak(" + d[0] + ", " + d[1] + ")", x.weak(d[0], d[1]), d[2]);
        }
    }

    // "the least of all ways with so few steps"
    private static void promise10LeastOfTheShortestWays() {
        PondReader x = Tape.reader("pond 3 3;reed 1 0;reed 1 1;reed 0 2;loss 1;thick 20;");
        due("round by the corner", x.weak(0, 8), 24);
        due("through one of two", x.weak(0, 4), 22);
        due("a shorter way by reeds ahead of a longer one", x.weak(0, 2), 22);
        PondReader late = Tape.reader("pond 3 2;reed 1 0;reed 2 0;loss 0;thick 7;");
        due("the later one found is the lesser", late.weak(0, 5), 0);
        PondReader free = Tape.reader("pond 3 2;reed 0 1;reed 1 1;loss 0;thick 7;");
        due("the first one found is the lesser", free.weak(0, 5), 0);
        PondReader both = Tape.reader("pond 2 2;reed 1 0;reed 0 1;loss 0;thick 7;");
        due("both have reeds", both.weak(0, 3), 7);
    }

    // "loss 0 .. 50 (10 without), thick 0 .. 99 (30)", "(above 100, too)"
    private static void promise10LeastAndGreatest() {
        due("without", Tape.reader("pond 2 1;reed 1 0;").weak(0, 1), 40);
        due("loss 0, thick 0", Tape.reader("pond 2 1;reed 1 0;loss 0;thick 0;").weak(0, 1), 0);
        due("loss 50, thick 99", Tape.reader("pond 2 1;reed 1 0;loss 50;thick 99;").weak(0, 1), 149);
        due("100", Tape.reader("pond 3 1;loss 50;").weak(0, 2), 100);
        due("above 100", Tape.reader("pond 8 1;loss 50;").weak(0, 7), 350);
        StringBuilder all = new StringBuilder("pond 8 1;loss 50;thick 99;");
        for (int x = 0; x < 8; x++) {
            all.append("reed " + x + " 0;");
        }
        due("reeds all the way", Tape.reader(all.toString()).weak(0, 7), 7 * 149);
    }

    // "-2, NONE likewise", and WEAK as the reeds are now
    private static void promise10ReedsAsTheyAreNow() {
        PondReader x = Tape.reader(POND);
        due("weak(0, 3)", x.weak(0, 3), 60);
        x.cut(2);
        due("cut", x.weak(0, 3), 30);
        x.undo();
        due("undone", x.weak(0, 3), 60);
        x.keep();
        x.cut(2);
        due("cut", x.weak(0, 3), 30);
        x.back();
        due("as in the image", x.weak(0, 3), 60);
    }

    // "RISE (STEP 0 .. 199). Integer.MIN_VALUE: no such ones, land."
    private static void promise11NoSuchStepOrCell() {
        PondReader x = Tape.reader(POND);
        due("step 0", x.rise(0, 0), 0);
        due("step 199", x.rise(0, 199), 0);
        for (int step : new int[] {-1, 200, 201, Integer.MIN_VALUE, Integer.MAX_VALUE}) {
            due("rise(0, " + step + ")", x.rise(0, step), NO_INT);
        }
        for (int cell : new int[] {5, 12, 13, 47, 48, -1, 64, Integer.MIN_VALUE, Integer.MAX_VALUE}) {
            due("rise(" + cell + ", 2)", x.rise(cell, 2), NO_INT);
        }
        due("the last cell", x.rise(11, 199), 0);
    }

    // "in the STEP that is FAR and k later a part of r k (0 up)", "at another one (or the same)"
    private static void promise11FirstAndLastStepOfARipple() {
        PondReader x = Tape.reader("pond 8 1;loss 0;kind k 1 2 3 4 5 6;drop k 0 0 3;");
        for (int cell = 0; cell < 8; cell++) {
            for (int step = 0; step < 20; step++) {
                int k = step - 3 - cell;
                due("rise(" + cell + ", " + step + ")", x.rise(cell, step), k >= 0 && k < 6 ? k + 1 : 0);
            }
        }
        PondReader late = Tape.reader("kind k 0 0 0 0 0 3;drop k 0 0 99;loss 0;");
        due("step 99 and six rises", late.rise(0, 104), 3);
        due("and the longest way of the pond", late.rise(15, 110), 3);
        due("not a step sooner", late.rise(15, 109), 0);
        due("not a step later", late.rise(15, 111), 0);
        PondReader far = Tape.reader(maze() + "kind k 0 0 0 0 0 90;drop k 0 0 99;shore 7 5;");
        due("round the maze", far.rise(47, 130), 90 + 45);
        due("and back", far.rise(0, 156), 45);
    }

    // "a part of it is what is left of 100 by WEAK (0 at least) of 100, cut towards 0"
    private static void promise11PartIsCutTowardsZero() {
        PondReader x = Tape.reader("pond 2 1;loss 15;kind a 7;kind b -7;kind c 1;kind d -1;");
        int[] due = {5, -5, 0, 0};
        for (int kind = 0; kind < 4; kind++) {
            x.fall(kind, 0, 0);
            due("a part of kind " + kind, x.rise(1, 1), due[kind]);
            due("all of kind " + kind, x.rise(0, 0), kind == 0 ? 7 : kind == 1 ? -7 : kind == 2 ? 1 : -1);
            x.undo();
        }
        x.fall(0, 0, 0);
        x.fall(0, 0, 0);
        due("each is cut for itself", x.rise(1, 1), 10);
    }

    // "(0 at least)"
    private static void promise11NothingIsLeft() {
        PondReader x = Tape.reader("pond 4 1;loss 50;kind a 99 -99;drop a 0 0 0;");
        due("half", x.rise(1, 1), 49);
        due("half", x.rise(1, 2), -49);
        due("weak is 100", x.most(2, 0), 0);
        due("weak is 100", x.most(2, 2), 0);
        due("weak is 150", x.most(3, 0), 0);
        due("weak is 150", x.most(3, 2), 0);
        PondReader one = Tape.reader("pond 4 1;loss 33;kind a 99;shore 3 0;drop a 0 0 0;");
        due("weak is 99", one.rise(3, 3), 0);
        PondReader two = Tape.reader("pond 2 1;loss 49;thick 49;reed 1 0;kind a 99;kind b -99;drop a 0 0 0;drop b 0 0 2;");
        due("weak is 98", two.rise(1, 1), 1);
        due("weak is 98", two.rise(1, 3), -1);
    }

    // "By each SHORE once": in the DROP's own CELL, in the SHORE's, sent 0 and 99
    private static void promise11ByShoreInItsOwnCell() {
        due("all in one cell", Tape.reader("pond 1 1;kind k 99;shore 0 0;drop k 0 0 0;").rise(0, 0), 99 + 49);
        due("sent 0", Tape.reader("pond 1 1;sent 0;kind k 99;shore 0 0;drop k 0 0 0;").rise(0, 0), 99);
        due("sent 99", Tape.reader("pond 1 1;sent 99;kind k 99;shore 0 0;drop k 0 0 0;").rise(0, 0), 99 + 98);
        due("cut towards 0", Tape.reader("pond 1 1;kind k -99;shore 0 0;drop k 0 0 0;").rise(0, 0), -99 - 49);
        due("sent of 1", Tape.reader("pond 1 1;sent 99;kind k 1;shore 0 0;drop k 0 0 0;").rise(0, 0), 1);
        PondReader x = Tape.reader("pond 3 1;kind k 99;shore 2 0;shore 0 0;drop k 0 0 0;");
        due("in the drop's cell, a shore", x.rise(0, 0), 99 + 49);
        due("back from the other shore", x.rise(0, 4), 31);
        due("in the other shore", x.rise(2, 2), 79 + 39 + 39);
        due("never by two shores", x.rise(2, 4) + x.rise(2, 6), 0);
        PondReader cut = Tape.reader("pond 2 1;kind k -99;loss 15;sent 33;shore 1 0;drop k 0 0 5;");
        due("each part is cut", cut.rise(0, 7), -22);
    }

    // "from the DROP's CELL to the SHORE's a part; sent of 100 of this, cut; from there on a part of this again": 20, then
    // 18 (of 94), 10 (of 60), 9 (of 97); in any other order, or cut only once, it is 10
    private static void promise11CutThreeTimesInThisOrder() {
        String text = "pond 4 1;loss 3;sent 60;kind up 20;kind down -20;shore 2 0;cork c 1 0;";
        for (int kind = 0; kind < 2; kind++) {
            PondReader x = Tape.reader(text);
            int sign = kind == 0 ? 1 : -1;
            x.fall(kind, 0, 0);
            due("directly", x.rise(1, 1), sign * 19);
            due("at the shore", x.rise(2, 2), sign * (18 + 10));
            due("from there on", x.rise(1, 3), sign * 9);
            due("and the other way", x.rise(3, 3), sign * (18 + 9));
            due("note", x.note(0, 3, sign * 9), 0);
            due("so with all drops", x.fits(), 1);
            due("so of one alone", x.tale(0, 0) * 100 + x.tale(0, 1) * 10 + x.tale(0, 2), kind * 100);
        }
    }

    // "By each SHORE": three of them, and none where there is no way
    private static void promise11ByThreeShores() {
        PondReader x = Tape.reader("pond 4 1;loss 0;kind k 10;shore 1 0;shore 2 0;shore 3 0;drop k 0 0 0;");
        int[][] due = {{0, 0, 10}, {0, 1, 0}, {0, 2, 5}, {0, 4, 5}, {0, 6, 5}, {1, 1, 15}, {1, 3, 5}, {1, 5, 5}, {2, 2, 20},
            {2, 4, 5}, {3, 3, 25}, {3, 5, 0}};
        for (int[] d : due) {
            due("rise(" + d[0] + ", " + d[1] + ")", x.rise(d[0], d[1]), d[2]);
        }
        PondReader parted = Tape.reader("pond 3 1;land 1 0;kind k 99;drop k 0 0 0;shore 2 0;loss 0;");
        for (int what = 0; what < 4; what += 2) {
            due("no way there", parted.most(2, what), 0);
        }
        due("none comes back", parted.most(0, 1), 0);
        due("but directly", parted.rise(0, 0), 99);
        due("nothing comes back", parted.rise(0, 4), 0);
        PondReader beyond = Tape.reader("pond 8 1;land 3 0;loss 0;kind k 99;shore 7 0;shore 0 0;drop k 2 0 0;drop k 4 0 50;");
        for (int step = 0; step < 100; step++) {
            due("nothing crosses land, cell 0 in step " + step, beyond.rise(0, step), step == 2 ? 99 + 49 : 0);
            due("nothing crosses land, cell 7 in step " + step, beyond.rise(7, step), step == 53 ? 99 + 49 : 0);
            due("what comes back to 2 in step " + step, beyond.rise(2, step), step == 0 ? 99 : step == 4 ? 49 : 0);
            due("what comes back to 4 in step " + step, beyond.rise(4, step), step == 50 ? 99 : step == 56 ? 49 : 0);
        }
        PondReader may = Tape.reader("pond 1 1;kind k 99;may m shore 0 0;drop k 0 0 0;");
        due("a shore of a may sends nothing", may.rise(0, 0), 99);
    }

    // "the sum of all DROPS": none, and 16 of them
    private static void promise11SumOfAllDrops() {
        due("no drops", Tape.reader("kind k 1;shore 0 0;").rise(0, 0), 0);
        PondReader x = Tape.reader("pond 1 1;sent 99;kind k 99 -99;shore 0 0;" + "drop k 0 0 0;".repeat(8));
        for (int i = 0; i < 8; i++) {
            x.fall(0, 0, 0);
        }
        due("16 of the greatest", x.rise(0, 0), 16 * (99 + 98));
        due("16 of the least", x.rise(0, 1), -16 * (99 + 98));
        x.fall(0, 0, 0);
        due("a 17th is none", x.rise(0, 0), 16 * (99 + 98));
    }

    // "What a CORK shows. Integer.MIN_VALUE: no such ones."
    private static void promise12NoSuchCorkOrStep() {
        PondReader x = Tape.reader("pond 6 1;loss 0;kind k 5;drop k 0 0 0;cork a 0 0;cork b 1 0;cork c 2 0;cork d 3 0;"
            + "cork e 4 0;cork f 5 0;");
        for (int cork = 0; cork < 6; cork++) {
            due("shows(" + cork + ", " + cork + ")", x.shows(cork, cork), 5);
            due("shows(" + cork + ", 199)", x.shows(cork, 199), 0);
            for (int step : new int[] {-1, 200, Integer.MIN_VALUE, Integer.MAX_VALUE}) {
                due("shows(" + cork + ", " + step + ")", x.shows(cork, step), NO_INT);
            }
        }
        for (int cork : new int[] {-1, 6, 7, Integer.MIN_VALUE, Integer.MAX_VALUE}) {
            due("shows(" + cork + ", 0)", x.shows(cork, 0), NO_INT);
        }
        due("no corks", new PondReader().shows(0, 0), NO_INT);
        PondReader two = Tape.reader("pond 1 1;kind k 5;drop k 0 0 0;cork a 0 0;cork b 0 0;");
        due("two in one cell", two.shows(0, 0) * 10 + two.shows(1, 0), 55);
    }

    // "what 0: the greatest RISE, 1: the first STEP with it, 2, 3: the least likewise"
    private static void promise13FirstStepOfSeveral() {
        most("pond 1 1;", 0, 0, 0, 0, 0);
        most("pond 1 1;kind k 3 -2;drop k 0 0 1;drop k 0 0 50;", 0, 3, 1, -2, 2);
        most("pond 1 1;kind k 3 3 3;drop k 0 0 99;", 0, 3, 99, 0, 0);
        most("pond 1 1;kind k 3;drop k 0 0 0;", 0, 3, 0, 0, 1);
        most("pond 1 1;kind k -3;drop k 0 0 0;", 0, 0, 1, -3, 0);
        most("pond 1 1;kind k -3-3-3-3-3-3;drop k 0 0 0;", 0, 0, 6, -3, 0);
        most("pond 1 1;kind k 1 2 3 4 5 6;drop k 0 0 99;", 0, 6, 104, 0, 0);
        most("pond 1 1;kind k -1-2-3-4-5-6;drop k 0 0 99;", 0, 0, 0, -6, 104);
        most("pond 3 1;land 1 0;kind k 9 -9;drop k 0 0 0;", 2, 0, 0, 0, 0);
        most(maze() + "kind k 0 0 0 0 0 90;drop k 0 0 99;", 47, 90, 130, 0, 0);
        most(maze() + "kind k 0 0 0 0 0 -90;drop k 0 0 99;", 47, 0, 0, -90, 130);
    }

    private static void most(String text, int cell, int... due) {
        PondReader x = Tape.reader(text);
        for (int what = 0; what < 4; what++) {
            due("most(" + cell + ", " + what + ") of " + text, x.most(cell, what), due[what]);
        }
    }

    // "Integer.MIN_VALUE: no such ones, land."
    private static void promise13NoSuchOnes() {
        PondReader x = Tape.reader(POND);
        for (int what = 0; what < 4; what++) {
            for (int cell : new int[] {5, 12, 48, -1, 64, Integer.MIN_VALUE, Integer.MAX_VALUE}) {
                due("most(" + cell + ", " + what + ")", x.most(cell, what), NO_INT);
            }
        }
        for (int what : new int[] {-1, 4, Integer.MIN_VALUE, Integer.MAX_VALUE}) {
            due("most(0, " + what + ")", x.most(0, what), NO_INT);
        }
    }

    // "A DROP comes (STEP 0 .. 99): its number; NONE: no such ones, land"
    private static void promise19NoSuchOnes() {
        PondReader x = Tape.reader(POND);
        int[][] wrong = {{2, 0, 0}, {-1, 0, 0}, {4, 0, 0}, {Integer.MAX_VALUE, 0, 0}, {Integer.MIN_VALUE, 0, 0}, {0, 5, 0},
            {0, 12, 0}, {0, -1, 0}, {0, 64, 0}, {0, Integer.MAX_VALUE, 0}, {0, Integer.MIN_VALUE, 0}, {0, 0, 100},
            {0, 0, -1}, {0, 0, Integer.MAX_VALUE}, {0, 0, Integer.MIN_VALUE}};
        for (int[] w : wrong) {
            due("fall(" + w[0] + ", " + w[1] + ", " + w[2] + ")", x.fall(w[0], w[1], w[2]), NONE);
            due("none came", x.count(5) * 10 + x.count(11), 10);
        }
        due("step 0", x.fall(0, 11, 0), 1);
        due("step 99, the last kind", x.fall(1, 11, 99), 2);
        due("it makes rise", x.rise(11, 99), 50 + 25);
        due("no kinds", new PondReader().fall(0, 0, 0), NONE);
    }

    // "or there are 16"
    private static void promise19SixteenAreTheMost() {
        PondReader x = Tape.reader("kind k 1;" + "drop k 0 0 0;".repeat(8));
        for (int i = 8; i < 16; i++) {
            due("fall " + i, x.fall(0, 0, 0), i);
        }
        due("a 17th", x.fall(0, 0, 0), NONE);
        due("it can't be undone", x.count(11), 8);
        due("nor is it there", x.count(5), 16);
        due("undo()", x.undo(), 7);
        due("there is room again", x.fall(0, 1, 5), 15);
        due("a 17th", x.fall(0, 0, 0), NONE);
        PondReader none = Tape.reader("kind k 1;");
        for (int i = 0; i < 16; i++) {
            due("fall " + i, none.fall(0, 0, 0), i);
        }
        due("a 17th", none.fall(0, 0, 0), NONE);
    }

    // "false: no such CELL, none there."
    private static void promise20NoneThere() {
        PondReader x = Tape.reader(POND);
        for (int cell : new int[] {0, 1, 3, 5, 11, 12, 13, 48, -1, -62, 66, 130, Integer.MIN_VALUE, Integer.MAX_VALUE}) {
            due("cut(" + cell + ")", x.cut(cell), false);
        }
        due("nothing is cut", x.count(12) * 10 + x.count(11), 10);
        due("cut(2)", x.cut(2), true);
        due("cut(2) again", x.cut(2), false);
        due("it can be undone once", x.count(11), 1);
        due("no reeds", x.count(12), 0);
        x.undo();
        due("there are reeds again", x.cut(2), true);
        due("a new object", new PondReader().cut(0), false);
        PondReader last = Tape.reader("pond 8 6;reed 7 5;reed 0 0;");
        due("the last cell", last.cut(47), true);
        due("the first cell", last.cut(0), true);
    }

    // "Reeds of a CELL are cut": of that CELL alone, and ripples go as they are then
    private static void promise20ThatCellAlone() {
        PondReader x = Tape.reader(reeds(20));
        for (int cell = 0; cell < 20; cell++) {
            due("cut(" + cell + ")", x.cut(cell), true);
            due("reeds left", x.count(12), 19 - cell);
            due("that cell", x.cell(cell, 0), 0);
            due("the next one", x.cell(cell + 1, 0), cell < 19 ? 1 : 0);
        }
        PondReader drop = Tape.reader("pond 2 1;kind k 10;reed 1 0;drop k 0 0 0;");
        due("through reeds", drop.rise(1, 1), 6);
        drop.cut(1);
        due("they are cut", drop.rise(1, 1), 9);
        drop.undo();
        due("they are there again", drop.rise(1, 1), 6);
    }

    // "how many are left; NONE: none."
    private static void promise21NothingToUndo() {
        due("a new object", new PondReader().undo(), NONE);
        PondReader x = Tape.reader(POND);
        due("what the text tells isn't undone", x.undo(), NONE);
        due("drops and reeds as told", x.count(5) * 10 + x.count(12), 11);
        x.fall(0, 0, 0);
        due("one", x.undo(), 0);
        due("none", x.undo(), NONE);
        due("none, again", x.undo(), NONE);
        due("the told drop stays", x.count(5), 1);
        x.fall(9, 0, 0);
        x.cut(0);
        due("what was refused isn't undone", x.undo(), NONE);
    }

    // "The latest of these is undone"
    private static void promise21LatestFirst() {
        PondReader x = Tape.reader(POND + "reed 0 0;");
        x.cut(2);
        x.fall(1, 0, 0);
        x.cut(0);
        x.fall(1, 8, 7);
        due("undo()", x.undo(), 3);
        due("the later drop is gone", x.drop(2, 0), NONE);
        due("the other one isn't", x.drop(1, 1), 0);
        due("undo()", x.undo(), 2);
        due("the later reeds are there", x.cell(0, 0) * 10 + x.cell(2, 0), 10);
        due("undo()", x.undo(), 1);
        due("the drop is gone", x.count(5), 1);
        due("fall behind undo()", x.fall(0, 1, 1), 1);
        due("count(11)", x.count(11), 2);
        due("undo()", x.undo(), 1);
        due("undo()", x.undo(), 0);
        due("as told", x.cell(0, 0) * 10 + x.cell(2, 0), 11);
    }

    // What was undone makes no RISE, and what is undone of reeds lets less through.
    private static void promise21RiseIsAsBefore() {
        PondReader x = Tape.reader("pond 2 1;kind k 10;reed 1 0;drop k 0 0 0;");
        x.fall(0, 0, 0);
        due("two", x.rise(0, 0) * 100 + x.rise(1, 1), 2012);
        x.undo();
        due("one", x.rise(0, 0) * 100 + x.rise(1, 1), 1006);
        x.cut(1);
        due("cut", x.rise(0, 0) * 100 + x.rise(1, 1), 1009);
        x.undo();
        due("undone", x.rise(0, 0) * 100 + x.rise(1, 1), 1006);
        x.keep();
        x.fall(0, 1, 0);
        due("another one", x.rise(1, 0), 10);
        x.back();
        due("as in the image", x.rise(1, 0), 0);
    }

    // "(20 at most)": just 20, and 21
    private static void promise21TwentyAtMost() {
        for (int changes = 19; changes <= 22; changes++) {
            PondReader x = Tape.reader(reeds(20));
            int falls = changes - 16;
            for (int i = 0; i < falls; i++) {
                due("fall " + i, x.fall(0, 47, i), i);
            }
            for (int cell = 0; cell < 16; cell++) {
                due("cut(" + cell + ")", x.cut(cell), true);
            }
            int most = Math.min(changes, 20);
            due("count(11)", x.count(11), most);
            for (int left = most - 1; left >= 0; left--) {
                due("undo()", x.undo(), left);
                due("count(11)", x.count(11), left);
            }
            due("no more", x.undo(), NONE);
            due("all reeds are there", x.count(12), 20);
            due("the oldest stay", x.count(5), changes - most);
        }
    }

    // Reeds whose cut is the oldest of 21 stay cut; the others come back in their CELLS.
    private static void promise21OldestStays() {
        PondReader x = Tape.reader(reeds(20));
        for (int cell = 19; cell >= 0; cell--) {
            x.cut(cell);
        }
        due("count(11)", x.count(11), 20);
        x.fall(0, 0, 0);
        due("count(11)", x.count(11), 20);
        due("the drop", x.undo(), 19);
        due("count(5)", x.count(5), 0);
        for (int cell = 0; cell < 19; cell++) {
            due("undo()", x.undo(), 18 - cell);
            due("reeds in " + cell, x.cell(cell, 0), 1);
        }
        due("undo()", x.undo(), NONE);
        due("reeds in 19", x.cell(19, 0), 0);
    }

    // "An IMAGE is kept (in place of one ahead): how many DROPS there are."
    private static void promise33InPlaceOfOneAhead() {
        PondReader x = Tape.reader(POND + "reed 0 0;");
        due("a new object", new PondReader().keep(), 0);
        due("keep()", x.keep(), 1);
        x.fall(0, 0, 0);
        x.cut(0);
        due("keep() in place of it", x.keep(), 2);
        x.fall(0, 0, 0);
        x.cut(2);
        due("back()", x.back(), 2);
        due("reeds as in the later one", x.cell(0, 0) * 10 + x.cell(2, 0), 1);
        PondReader full = Tape.reader("kind k 1;");
        for (int i = 0; i < 16; i++) {
            full.fall(0, i, i);
        }
        due("16 drops", full.keep(), 16);
        for (int i = 0; i < 16; i++) {
            full.undo();
        }
        due("back()", full.back(), 16);
        for (int i = 0; i < 16; i++) {
            due("drop(" + i + ", 1)", full.drop(i, 1), i);
            due("drop(" + i + ", 2)", full.drop(i, 2), i);
        }
    }

    // It leaves drops, reeds and what can be undone as they are.
    private static void promise33ChangesNothing() {
        PondReader x = Tape.reader(POND);
        x.fall(1, 0, 0);
        x.cut(2);
        due("keep()", x.keep(), 2);
        due("count(11)", x.count(11), 2);
        due("undo()", x.undo(), 1);
        due("undo()", x.undo(), 0);
        due("the image has them still", x.back(), 2);
        due("and its reeds", x.count(12), 0);
        due("its rise", x.rise(0, 0), 50);
    }

    // "NONE: there is none."
    private static void promise34NoImage() {
        PondReader x = Tape.reader(POND);
        x.fall(0, 0, 0);
        due("back()", x.back(), NONE);
        due("it changes nothing", x.count(5) * 10 + x.count(11), 21);
        x.keep();
        due("back()", x.back(), 2);
        Tape.tell(x, POND);
        due("none behind a text", x.back(), NONE);
        x.keep();
        Tape.tell(x, "x");
        due("but behind one with a fault", x.back(), 1);
        x.text(-1);
        due("and behind -2", x.back(), 1);
    }

    // "DROPS and reeds are as in the IMAGE (nothing to undo then): how many DROPS"
    private static void promise34NothingToUndoThen() {
        PondReader x = Tape.reader(POND);
        x.fall(1, 0, 0);
        x.keep();
        x.cut(2);
        x.fall(1, 1, 1);
        due("back()", x.back(), 2);
        due("count(11)", x.count(11), 0);
        due("undo()", x.undo(), NONE);
        due("drops", x.count(5), 2);
        due("reeds", x.count(12), 1);
        x.cut(2);
        x.fall(0, 3, 3);
        due("back() again", x.back(), 2);
        due("the image has not changed", x.count(12) * 10 + x.drop(1, 1), 10);
        x.keep();
        due("back() with nothing between", x.back(), 2);
        due("the next number", x.fall(0, 0, 0), 2);
    }

    // It leaves NOTES and by how many it is KNOWN.
    private static void promise34NotesStay() {
        PondReader x = Tape.reader(POND);
        x.keep();
        x.note(0, 0, 0);
        x.note(0, 0, 1);
        x.known(1);
        x.fall(1, 0, 0);
        due("fits() ahead", x.fits(), 0);
        due("back()", x.back(), 1);
        due("notes", x.count(9) * 10 + x.count(10), 21);
        due("fits()", x.fits(), 1);
    }

    // "0 WIDE, 1 HIGH, .. 12 CELLS with reeds": each at its greatest
    private static void promise35Greatest() {
        StringBuilder text = new StringBuilder(reeds(20).replace("kind k 1;", ""));
        for (int i = 0; i < 8; i++) {
            String name = "" + (char) ('a' + i);
            text.append(i < 4 ? "kind " + name + " 1;" : "").append(i < 6 ? "cork " + name + " 0 0;" : "");
            text.append(i < 3 ? "skater " + name + " 0 0;shore " + i + " 0;may " + name + ";" : "");
            text.append("drop a 0 0 0;");
        }
        text.append("law not 1" + "+1".repeat(31) + ";");
        PondReader x = Tape.reader(text.toString());
        for (int i = 0; i < 32; i++) {
            x.note(0, 0, 0);
        }
        counts(x, 8, 6, 4, 6, 3, 8, 3, 3, 64, 32, 32, 0, 20);
        for (int i = 0; i < 20; i++) {
            x.fall(0, 0, 0);
            x.cut(i);
        }
        counts(x, 8, 6, 4, 6, 3, 16, 3, 3, 64, 32, 32, 20, 0);
        x.text(0);
        counts(x, 4, 4, 0, 0, 0, 0, 0, 0, 0, 0, 0, 0, 0);
    }

    private static void counts(PondReader x, int... due) {
        for (int what = 0; what < due.length; what++) {
            due("count(" + what + ")", x.count(what), due[what]);
        }
    }

    // "NONE for another what."
    private static void promise35AnotherWhat() {
        PondReader x = Tape.reader(POND);
        for (int what : new int[] {-1, 13, 14, Integer.MIN_VALUE, Integer.MAX_VALUE}) {
            due("count(" + what + ")", x.count(what), NONE);
        }
    }

    // "10 by how many it is KNOWN": all, none, some
    private static void promise35KnownByHowMany() {
        PondReader x = Tape.reader(POND);
        for (int i = 0; i < 5; i++) {
            due("all", x.count(10), i);
            x.note(0, 0, 0);
        }
        x.strike(4);
        due("a strike is one of them", x.count(9) * 10 + x.count(10), 66);
        x.known(0);
        due("none", x.count(10), 0);
        x.known(6);
        x.note(0, 0, 0);
        due("six of seven", x.count(10), 6);
        x.known(-1);
        due("all", x.count(10), 7);
    }
}
