/** Promises 14 to 18 at their boundaries: the law, where skaters go, who is first, lies. */
public final class EdgesOfSkatersTest {
    private static final int NONE = PondReader.NONE;
    private static final long NO_LONG = Long.MIN_VALUE;
    private static final String BILLION = "1000*1000*1000";
    private static final int[] NO_SKATERS = {-1, 3, 4, Integer.MIN_VALUE, Integer.MAX_VALUE};

    private EdgesOfSkatersTest() {
    }

    public static void main(String[] args) {
        Suite.run(EdgesOfSkatersTest.class, 14, 15, 16, 17, 18);
    }

    private static void due(String call, long got, long want) {
        Suite.due(call, got, want);
    }

    private static void due(String call, boolean got, boolean want) {
        Suite.due(call, got, want);
    }

    private static void worth(String law, long due) {
        due(law, Tape.reader("skater s 0 0;law " + law + ";").law(0, 0), due);
    }

    // "ERROR: .. a value above 10 to the 12 or below 0 by more than that"
    private static void promise14ValueAboveTheLimit() {
        worth(BILLION + "*1000", 1000000000000L);
        worth("0-" + BILLION + "*1000", -1000000000000L);
        worth(BILLION + "*999+" + BILLION, 1000000000000L);
        worth(BILLION + "*1000+1", NO_LONG);
        worth("1+" + BILLION + "*1000", NO_LONG);
        worth("0-" + BILLION + "*1000-1", NO_LONG);
        worth("0-1-" + BILLION + "*1000", NO_LONG);
        worth(BILLION + "*1001", NO_LONG);
        worth("1001*" + BILLION, NO_LONG);
        worth("(0-" + BILLION + ")*1000", -1000000000000L);
        worth("(0-" + BILLION + ")*1001", NO_LONG);
        worth("(0-" + BILLION + ")*(0-1000)", 1000000000000L);
        worth("(0-" + BILLION + ")*(0-1001)", NO_LONG);
        worth("(" + BILLION + "*1000)/1", 1000000000000L);
        worth("(" + BILLION + "*1000)/(0-1)", -1000000000000L);
        worth("(" + BILLION + "*1000)*0", 0);
        worth("(" + BILLION + "*1000)*1", 1000000000000L);
    }

    // Each value on the way is one, though what comes of it would be none.
    private static void promise14ValueAboveTheLimitOnTheWay() {
        worth(BILLION + "*1000+1-1", NO_LONG);
        worth("(" + BILLION + "*1001)*0", NO_LONG);
        worth("0*(" + BILLION + "*1001)", NO_LONG);
        worth("(" + BILLION + "*1001)/1000", NO_LONG);
        worth("(" + BILLION + "*1001)>1", NO_LONG);
        worth("not " + BILLION + "*1001", NO_LONG);
        worth("1 or " + BILLION + "*1001", NO_LONG);
        worth("0 and " + BILLION + "*1001", NO_LONG);
    }

    // A product beyond a long is above the limit, too, though it wraps around to a small one.
    private static void promise14ProductBeyondALong() {
        String twoTo32 = "256*256*256*256";
        worth("(" + twoTo32 + ")*(" + twoTo32 + ")", NO_LONG);
        worth("(0-" + twoTo32 + ")*(" + twoTo32 + ")", NO_LONG);
        worth("(" + twoTo32 + ")*(0-" + twoTo32 + ")", NO_LONG);
        worth("(0-" + twoTo32 + ")*(0-" + twoTo32 + ")", NO_LONG);
        worth("(" + twoTo32 + ")*(" + twoTo32 + ")+1", NO_LONG);
        worth("(" + BILLION + "*1000)*(" + BILLION + "*1000)", NO_LONG);
        worth("(" + BILLION + "*1000)*9999", NO_LONG);
        for (String sign : new String[] {"", "0-"}) {
            worth("(" + sign + "8192*4096)*(8192*8192*8192)", NO_LONG);
            worth("(8192*8192*8192)*(" + sign + "8192*4096)", NO_LONG);
            worth("1+(" + sign + "8192*8192*8192)*(8192*4096)", NO_LONG);
        }
    }

    // "ERROR: / by 0"
    private static void promise14DivisionByZero() {
        worth("1/0", NO_LONG);
        worth("0/0", NO_LONG);
        worth("5/(3-3)", NO_LONG);
        worth("5/(1=2)", NO_LONG);
        worth("5/(1/2)", NO_LONG);
        worth("5/way", NO_LONG);
        worth("0*(1/0)", NO_LONG);
        worth("1/0=1/0", NO_LONG);
        worth("0/5", 0);
        worth("5/(1=1)", 5);
    }

    // "/ is cut towards 0"
    private static void promise14DivisionIsCutTowardsZero() {
        worth("7/2", 3);
        worth("(0-7)/2", -3);
        worth("7/(0-2)", -3);
        worth("(0-7)/(0-2)", 3);
        worth("1/2", 0);
        worth("(0-1)/2", 0);
        worth("9999/9999", 1);
        worth("9998/9999", 0);
    }

    // "comparisons, and, or, not are 1 or 0 (what isn't 0 is as 1, both sides are worked out)"
    private static void promise14BothSidesAreWorkedOut() {
        worth("1 or 1/0", NO_LONG);
        worth("1/0 or 1", NO_LONG);
        worth("0 and 1/0", NO_LONG);
        worth("1/0 and 0", NO_LONG);
        worth("not 1/0", NO_LONG);
        worth("1<1/0", NO_LONG);
        worth("5 or 0", 1);
        worth("0 or 5", 1);
        worth("0 or 0", 0);
        worth("5 or 7", 1);
        worth("5 and 7", 1);
        worth("5 and 0", 0);
        worth("0 and 5", 0);
        worth("(0-5) and (0-7)", 1);
        worth("(0-5) and 7", 1);
        worth("7 and (0-5)", 1);
        worth("(0-5) or 0", 1);
        worth("0 or (0-5)", 1);
        worth("not 0", 1);
        worth("not 5", 0);
        worth("not (0-5)", 0);
        worth("not not (0-5)", 1);
    }

    // The six comparisons just below, at and just above.
    private static void promise14ComparisonsAtTheirEdges() {
        String[] signs = {"<", "<=", "=", "<>", ">=", ">"};
        int[][] due = {{1, 0, 0}, {1, 1, 0}, {0, 1, 0}, {1, 0, 1}, {0, 1, 1}, {0, 0, 1}};
        for (int i = 0; i < signs.length; i++) {
            for (int left = 4; left <= 6; left++) {
                worth(left + signs[i] + "5", due[i][left - 4]);
                worth("(0-" + (10 - left) + ")" + signs[i] + "(0-5)", due[i][left - 4]);
            }
        }
    }

    // What binds closer, and from the left on.
    private static void promise14OrderOfSigns() {
        worth("1-2-3", -4);
        worth("1-(2-3)", 2);
        worth("8/4/2", 1);
        worth("8/4*2", 4);
        worth("2+3*4", 14);
        worth("2*3+4", 10);
        worth("(2+3)*4", 20);
        worth("1+1=2", 1);
        worth("2=1+1", 1);
        worth("1 or 1 and 0", 1);
        worth("0 and 1 or 1", 1);
        worth("not 0 and 0", 0);
        worth("not (0 and 0)", 1);
        worth("not 1=2", 1);
        worth("not 0+1", 0);
        worth("not 0 or 1", 1);
        worth("3 and 2 = 2", 1);
        worth("1<2 and 2<1", 0);
    }

    // "Long.MIN_VALUE: an ERROR, no law, no such ones"
    private static void promise14NoSuchOnes() {
        PondReader x = Tape.reader("pond 3 3;skater a 1 1;skater b 1 1;skater c 1 1;law 7;");
        for (int skater = 0; skater < 3; skater++) {
            for (int way = 0; way < 5; way++) {
                due("law(" + skater + ", " + way + ")", x.law(skater, way), 7);
            }
            for (int way : new int[] {-1, 5, 6, Integer.MIN_VALUE, Integer.MAX_VALUE}) {
                due("law(" + skater + ", " + way + ")", x.law(skater, way), NO_LONG);
            }
        }
        for (int skater : NO_SKATERS) {
            due("law(" + skater + ", 0)", x.law(skater, 0), NO_LONG);
        }
        due("no skaters", Tape.reader("law 1;").law(0, 0), NO_LONG);
        due("no law", Tape.reader("skater s 0 0;").law(0, 0), NO_LONG);
        due("a new object", new PondReader().law(0, 0), NO_LONG);
    }

    // "no water that way": over each of the pond's edges, and on land
    private static void promise14NoWaterThatWay() {
        ways("pond 3 3;skater s 0 0;", 0, 2, 3);
        ways("pond 3 3;skater s 2 0;", 0, 3, 4);
        ways("pond 3 3;skater s 0 2;", 0, 1, 2);
        ways("pond 3 3;skater s 2 2;", 0, 1, 4);
        ways("pond 3 3;skater s 1 1;", 0, 1, 2, 3, 4);
        ways("pond 3 3;skater s 0 1;", 0, 1, 2, 3);
        ways("pond 3 3;skater s 2 1;", 0, 1, 3, 4);
        ways("pond 1 1;skater s 0 0;", 0);
        ways("pond 8 6;skater s 7 5;", 0, 1, 4);
        ways("pond 8 6;skater s 0 0;", 0, 2, 3);
        ways("pond 3 3;land 1 0;skater s 1 1;", 0, 2, 3, 4);
        ways("pond 3 3;land 2 1;skater s 1 1;", 0, 1, 3, 4);
        ways("pond 3 3;land 1 2;skater s 1 1;", 0, 1, 2, 4);
        ways("pond 3 3;land 0 1;skater s 1 1;", 0, 1, 2, 3);
    }

    private static void ways(String text, int... open) {
        PondReader x = Tape.reader(text + "law way;");
        for (int way = 0; way < 5; way++) {
            boolean isOpen = false;
            for (int one : open) {
                isOpen |= one == way;
            }
            due("law(0, " + way + ") of " + text, x.law(0, way), isOpen ? way : NO_LONG);
        }
    }

    // "for a SKATER in its first CELL, STEP 0", "reeds: 1, if there are" as they are now
    private static void promise14FirstCellAndStepZero() {
        PondReader x = Tape.reader("pond 3 1;loss 0;kind k 5 9;skater s 1 0;reed 2 0;drop k 2 0 0;"
            + "law rise*100+here*10+reeds+step*1000;");
        due("there", x.law(0, 2), 501);
        due("here", x.law(0, 0), 0);
        due("on the other side", x.law(0, 4), 0);
        due("the skater goes there", x.where(0, 1), 2);
        due("as ahead of it", x.law(0, 2), 501);
        x.cut(2);
        due("reeds that are cut", x.law(0, 2), 500);
        x.fall(0, 1, 0);
        due("a drop that comes", x.law(0, 2), 550);
        x.undo();
        x.undo();
        due("undone", x.law(0, 2), 501);
    }

    private static void path(String text, int... cells) {
        PondReader x = Tape.reader(text);
        for (int n = 0; n < cells.length; n++) {
            due("where(0, " + n + ") of " + text, x.where(0, n), cells[n]);
        }
    }

    // "The CELL where a SKATER is ahead of STEP n (0 .. 100). NONE: no such ones."
    private static void promise15FirstAndLastStep() {
        PondReader x = Tape.reader("pond 2 1;skater a 0 0;skater b 1 0;skater c 0 0;law (step=99)*(way=2);");
        for (int skater = 0; skater < 3; skater++) {
            int told = skater == 1 ? 1 : 0;
            due("where it is told", x.where(skater, 0), told);
            due("ahead of step 99", x.where(skater, 99), told);
            due("ahead of step 100", x.where(skater, 100), 1);
            for (int n : new int[] {-1, 101, Integer.MIN_VALUE, Integer.MAX_VALUE}) {
                due("where(" + skater + ", " + n + ")", x.where(skater, n), NONE);
            }
        }
        for (int skater : NO_SKATERS) {
            due("where(" + skater + ", 0)", x.where(skater, 0), NONE);
        }
        path("pond 2 1;skater s 0 0;law (step=0)*(way=2);", 0, 1, 1);
        due("no skaters", new PondReader().where(0, 0), NONE);
    }

    // "the greatest E of the law .., of several the first": where it is, then up, right, down, left
    private static void promise15OfSeveralTheFirst() {
        String middle = "pond 3 3;skater s 1 1;";
        path(middle + "law 1;", 4, 4, 4);
        path(middle + "law way>0;", 4, 1);
        path(middle + "law way>1;", 4, 5);
        path(middle + "law way>2;", 4, 7);
        path(middle + "law way>3;", 4, 3);
        path(middle + "law way>4;", 4, 4);
        path(middle + "law way=0 or way=4;", 4, 4);
        path(middle + "law way=1 or way=4;", 4, 1);
        path(middle + "law 0-way;", 4, 4);
        path(middle + "law way;", 4, 3, 6, 7, 6);
        path(middle + "land 1 0;law way>0;", 4, 5);
        path(middle + "land 1 0;land 2 1;law way>0;", 4, 7);
        path(middle + "land 1 0;land 2 1;land 1 2;law way>0;", 4, 3);
        path(middle + "land 1 0;land 2 1;land 1 2;land 0 1;law way>0;", 4, 4);
    }

    // "those of the water": no way over an edge, not to the next row either
    private static void promise15NotOverTheEdge() {
        path("pond 3 2;skater s 2 0;law way=2;", 2, 2, 2);
        path("pond 3 2;skater s 0 1;law way=4;", 3, 3, 3);
        path("pond 3 2;skater s 0 0;law way=1;", 0, 0, 0);
        path("pond 3 2;skater s 0 1;law way=3;", 3, 3, 3);
        path("pond 1 1;skater s 0 0;law way;", 0, 0, 0);
        path("pond 8 6;skater s 5 5;law way=2;", 45, 46, 47, 47);
        path("pond 8 6;skater s 2 0;law way=4;", 2, 1, 0, 0);
    }

    // "(RISE without, 0 with an ERROR)"
    private static void promise15ErrorIsZero() {
        String middle = "pond 3 3;skater s 1 1;";
        path(middle + "law 0-9/way;", 4, 4);
        path(middle + "law 1/way;", 4, 1);
        path(middle + "law 0-1-0/(way-2);", 4, 5);
        path(middle + "law 1+0/(way-2)-(way<>1);", 4, 1);
        path(middle + "law 0/(way-2);", 4, 4);
        path(middle + "law (way=4)*9999*9999*9999*9999-1;", 4, 3);
        path(middle + "law 0-(way=4)*9999*9999*9999*9999;", 4, 4);
        path(middle + "law 1/0;", 4, 4);
    }

    // "RISE without": a skater flees what is below 0, too
    private static void promise15RiseWithoutALaw() {
        path("pond 3 3;loss 0;skater s 1 1;kind k -5;drop k 1 1 0;", 4, 1);
        path("pond 3 3;loss 0;skater s 1 1;kind k 5;drop k 1 1 0;", 4, 4, 1, 2);
        path("pond 5 1;loss 0;skater s 2 0;kind k 5;drop k 0 0 0;", 2, 2, 1, 2, 3, 4);
        path("pond 3 3;skater s 1 1;", 4, 4, 4);
        path("pond 3 3;loss 0;skater s 1 1;kind k 5;drop k 1 0 1;drop k 1 2 1;", 4, 4, 1);
    }

    // "in each STEP by numbers each": two may be in one CELL
    private static void promise15SkatersDoNotHinderOneAnother() {
        PondReader x = Tape.reader("pond 3 1;skater a 0 0;skater b 1 0;skater c 0 0;law way=2;");
        int[][] due = {{0, 1, 2, 2}, {1, 2, 2, 2}, {0, 1, 2, 2}};
        for (int skater = 0; skater < 3; skater++) {
            for (int n = 0; n < 4; n++) {
                due("where(" + skater + ", " + n + ")", x.where(skater, n), due[skater][n]);
            }
        }
    }

    // "rise: the RISE there in this STEP; here: that of the CELL where it is; reeds: 1, if there are; way; step"
    private static void promise15NamesInEachStep() {
        path("pond 4 1;skater s 0 0;law (way=2)*(step=1 or step=3);", 0, 0, 1, 1, 2, 2);
        path("pond 4 1;loss 0;kind k 5;drop k 3 0 0;skater s 0 0;law (rise>here)*(way=2);", 0, 0, 0, 1, 1, 1);
        path("pond 4 1;loss 0;kind k 5;drop k 3 0 0;skater s 0 0;law (rise<here)*(way=2);", 0, 0, 0, 0, 1, 1);
        path("pond 4 1;reed 1 0;reed 2 0;skater s 0 0;law reeds*way;", 0, 1, 2, 1, 2);
        PondReader x = Tape.reader("pond 4 1;reed 1 0;reed 2 0;skater s 0 0;law reeds*way;");
        x.cut(2);
        due("reeds that are cut", x.where(0, 2), 1);
        x.undo();
        due("undone", x.where(0, 2), 2);
    }

    // "Ahead of which STEP (0 .. 100) a SKATER is first in a CELL; -2: of none; NONE: no such ones."
    private static void promise16FirstLastAndNever() {
        String late = "pond 2 1;skater s 0 0;law way=2 and step=#;";
        due("where it is told", Tape.reader(late.replace("#", "0")).reaches(0, 0), 0);
        due("ahead of step 1", Tape.reader(late.replace("#", "0")).reaches(0, 1), 1);
        due("ahead of step 99", Tape.reader(late.replace("#", "98")).reaches(0, 1), 99);
        due("ahead of step 100", Tape.reader(late.replace("#", "99")).reaches(0, 1), 100);
        due("ahead of step 101", Tape.reader(late.replace("#", "100")).reaches(0, 1), -2);
        PondReader back = Tape.reader("pond 2 1;skater s 0 0;law way;");
        due("first, not again", back.reaches(0, 0) * 10 + back.reaches(0, 1), 1);
        due("on land", Tape.reader("pond 2 1;land 1 0;skater s 0 0;").reaches(0, 1), -2);
    }

    // "NONE: no such ones"
    private static void promise16NoSuchOnes() {
        PondReader x = Tape.reader("pond 2 2;skater a 0 0;skater b 0 0;skater c 1 1;");
        due("reaches(2, 3)", x.reaches(2, 3), 0);
        for (int skater : NO_SKATERS) {
            due("reaches(" + skater + ", 0)", x.reaches(skater, 0), NONE);
        }
        for (int cell : new int[] {-1, 4, 48, 64, Integer.MIN_VALUE, Integer.MAX_VALUE}) {
            due("reaches(0, " + cell + ")", x.reaches(0, cell), NONE);
        }
        due("no skaters", new PondReader().reaches(0, 0), NONE);
    }

    // "Who is first in a CELL (of several the least); -2: nobody"
    private static void promise17OfSeveralTheLeast() {
        PondReader x = Tape.reader("pond 4 1;skater a 0 0;skater b 1 0;skater c 1 0;law way=2;");
        int[] due = {0, 1, 1, 1};
        for (int cell = 0; cell < 4; cell++) {
            due("first(" + cell + ")", x.first(cell), due[cell]);
        }
        PondReader later = Tape.reader("pond 4 1;skater a 0 0;skater b 0 0;skater c 3 0;law way=2;");
        due("the last of them", later.first(3), 2);
        due("the least of two", later.first(2), 0);
        PondReader late = Tape.reader("pond 2 1;skater s 0 0;law way=2 and step=99;");
        due("ahead of step 100", late.first(1), 0);
    }

    // "-2: nobody; NONE: no such CELL."
    private static void promise17Nobody() {
        PondReader x = Tape.reader("pond 3 2;land 1 0;skater a 0 0;");
        due("first(2)", x.first(2), -2);
        due("land", x.first(1), -2);
        due("no skaters", new PondReader().first(0), -2);
        due("ahead of step 101", Tape.reader("pond 2 1;skater s 0 0;law way=2 and step=100;").first(1), -2);
        for (int cell : new int[] {-1, 6, 48, 64, Integer.MIN_VALUE, Integer.MAX_VALUE}) {
            due("first(" + cell + ")", x.first(cell), NONE);
            due("first(" + cell + ") of a new object", new PondReader().first(cell == 6 ? 16 : cell), NONE);
        }
    }

    /** In step # the skater goes from cell 0 to cell 1, if nothing rises there then. */
    private static final String SHY = "pond 2 1;loss 0;kind k 1;skater s 0 0;law (step=#)*(way=2)*(1-rise);";

    private static void lie(String text, int cell, int n, int step, int from) {
        PondReader x = Tape.reader(text);
        due("lie(0, " + cell + ", 0, " + n + ", 0) of " + text, x.lie(0, cell, 0, n, 0), step);
        due("lie(0, " + cell + ", 0, " + n + ", 1) of " + text, x.lie(0, cell, 0, n, 1), from);
    }

    // "a STEP 0 .. 15"
    private static void promise18StepsOfTheDrop() {
        lie(SHY.replace("#", "0"), 1, 60, 0, 1);
        lie(SHY.replace("#", "1"), 1, 60, 0, 0);
        lie(SHY.replace("#", "15"), 1, 60, 14, 0);
        lie(SHY.replace("#", "16"), 1, 60, 15, 0);
        lie(SHY.replace("#", "17"), 1, 60, -2, -2);
        lie(SHY.replace("#", "20").replace("k 1", "k 0 0 0 0 0 1"), 1, 60, 14, 0);
        lie(SHY.replace("#", "21").replace("k 1", "k 0 0 0 0 0 1"), 1, 60, 15, 0);
        lie(SHY.replace("#", "22").replace("k 1", "k 0 0 0 0 0 1"), 1, 60, -2, -2);
    }

    // "the first by STEPS, then CELLS"
    private static void promise18FirstByStepsThenCells() {
        String text = "pond 3 1;loss 0;kind k 1;skater s 1 0;law (step=2)*(way=4)*(1-rise);";
        lie(text, 0, 3, 0, 2);
        lie("pond 3 1;loss 0;kind k 1;skater s 1 0;law (step=1)*(way=4)*(1-rise);", 0, 2, 0, 1);
        lie("pond 3 1;loss 0;kind k 1 1;skater s 1 0;law (step=1)*(way=4)*(1-rise);", 0, 2, 0, 0);
        lie("pond 3 1;loss 0;kind k 1 1;skater s 1 0;law (step=0)*(way=4)*(1-rise);", 0, 1, 0, 0);
    }

    // "isn't .. ahead of any of STEPS 0 .. n": a skater that only comes later is there
    private static void promise18AheadOfAnyStep() {
        String text = "pond 2 1;loss 0;kind k 1;skater s 0 0;law (step>=3)*(way=2)*(1-rise);";
        lie(text, 1, 3, -3, -3);
        lie(text, 1, 4, 2, 0);
        lie(text, 1, 5, -2, -2);
        lie(text.replace("k 1", "k 1 1"), 1, 5, 2, 0);
        lie(text.replace("k 1", "k 1 1"), 1, 6, -2, -2);
    }

    // "isn't in a told CELL ahead of any of STEPS 0 .. n": to have left it again by then is no lie
    private static void promise18PassingIsBeingThere() {
        String text = "pond 4 1;loss 0;kind k 1;skater s 0 0;law (way=2)*2+(step>0)*(way=0)*rise*3;";
        lie(text, 1, 1, -2, -2);
        lie(text, 1, 3, -2, -2);
        lie(text, 1, 60, -2, -2);
        lie(text, 2, 2, 0, 0);
        lie(text, 2, 3, -2, -2);
        lie(text, 3, 3, 0, 0);
        lie(text, 3, 60, -2, -2);
    }

    // STEPS behind n don't count, though the skater's way there has been asked for.
    private static void promise18NotBehindN() {
        PondReader x = Tape.reader("pond 2 1;loss 0;kind k 1;skater s 0 0;law (step=5)*(way=2)*(1-rise);");
        due("where(0, 100)", x.where(0, 100), 1);
        due("n 5", x.lie(0, 1, 0, 5, 0), -3);
        due("n 6", x.lie(0, 1, 0, 6, 0), 4);
        due("n 5 again", x.lie(0, 1, 0, 5, 0), -3);
        due("reaches", x.reaches(0, 1), 6);
        due("n 5 again", x.lie(0, 1, 0, 5, 0), -3);
    }

    // "n 0 .. 60"
    private static void promise18GreatestN() {
        String text = "pond 3 1;kind k 9;skater s 1 0;law (step=#)*(way=2)+(rise>0)*(way=4)*9;";
        lie(text.replace("#", "59"), 2, 60, 0, 0);
        lie(text.replace("#", "59"), 2, 59, -3, -3);
        lie(text.replace("#", "60"), 2, 60, -3, -3);
        lie(text.replace("#", "58"), 2, 59, 0, 0);
        PondReader x = Tape.reader(text.replace("#", "0"));
        for (int n : new int[] {-1, 61, 100, Integer.MIN_VALUE, Integer.MAX_VALUE}) {
            due("n " + n, x.lie(0, 2, 0, n, 0), NONE);
        }
    }

    // "-2: none does; -3: it isn't there without", n 0
    private static void promise18WhereItIsToldAtFirst() {
        lie(SHY.replace("#", "0"), 0, 0, -2, -2);
        lie(SHY.replace("#", "0"), 0, 60, -2, -2);
        lie(SHY.replace("#", "0"), 1, 0, -3, -3);
        lie(SHY.replace("#", "0"), 1, 1, 0, 1);
        lie("pond 3 1;land 2 0;kind k 1;skater s 0 0;", 2, 60, -3, -3);
        lie("pond 3 1;land 1 0;kind k 1;skater s 0 0;", 2, 60, -3, -3);
    }

    // "in a CELL of the water": one of land is passed by, and one without a way does nothing
    private static void promise18CellOfTheWater() {
        lie("pond 4 1;land 0 0;loss 0;kind k 1;skater s 2 0;law (step=0)*(way=4)*(1-rise);", 1, 1, 0, 1);
        lie("pond 4 1;land 1 0;loss 0;kind k 1;skater s 2 0;law (step=0)*(way=2)*(1-rise);", 3, 1, 0, 3);
        lie("pond 3 2;land 1 0;land 1 1;loss 0;kind k 1;skater s 0 0;law (step=0)*(way=3)*(1-rise);", 3, 1, 0, 3);
    }

    // What a SHORE sends back of one more DROP keeps a skater away, too.
    private static void promise18ByAShore() {
        String text = "pond 3 1;loss 0;sent 50;kind k 2;skater s 0 0;law (step=4)*(way=2)*(1-rise);";
        lie(text, 1, 5, 3, 0);
        lie(text + "shore 0 0;", 1, 5, 1, 2);
        lie(text + "shore 2 0;", 1, 5, 1, 0);
        lie(text.replace("k 2", "k 1") + "shore 2 0;", 1, 5, 3, 0);
    }

    // "one more DROP": though there are 16, and it is gone afterwards
    private static void promise18OneMoreDrop() {
        PondReader x = Tape.reader(SHY.replace("#", "16"));
        for (int i = 0; i < 16; i++) {
            x.fall(0, 0, 99);
        }
        due("lie", x.lie(0, 1, 0, 60, 0), 15);
        due("drops", x.count(5), 16);
        due("rise(0, 15)", x.rise(0, 15), 0);
        due("rise(0, 99)", x.rise(0, 99), 16);
        due("it can't be undone", x.count(11), 16);
        due("where it goes", x.where(0, 17), 1);
        due("asked again", x.lie(0, 1, 0, 60, 0), 15);
    }

    // "NONE: no such ones." ahead of -2 and -3
    private static void promise18NoSuchOnes() {
        PondReader x = Tape.reader("pond 2 1;loss 0;kind k 1;kind j -1;skater s 0 0;skater t 0 0;skater u 0 0;"
            + "law (step=0)*(way=2)*(1-rise);");
        for (int skater = 0; skater < 3; skater++) {
            due("skater " + skater, x.lie(skater, 1, 0, 1, 1), 1);
        }
        due("another kind", x.lie(0, 1, 1, 1, 0), -2);
        for (int cell = 0; cell < 2; cell++) {
            for (int skater : NO_SKATERS) {
                due("skater " + skater, x.lie(skater, cell, 0, 1, 0), NONE);
            }
            for (int kind : new int[] {-1, 2, 4, Integer.MIN_VALUE, Integer.MAX_VALUE}) {
                due("kind " + kind, x.lie(0, cell, kind, 1, 0), NONE);
                due("kind " + kind + ", n 0", x.lie(0, cell, kind, 0, 0), NONE);
            }
            for (int what : new int[] {-1, 2, Integer.MIN_VALUE, Integer.MAX_VALUE}) {
                due("what " + what, x.lie(0, cell, 0, 1, what), NONE);
                due("what " + what + ", n 0", x.lie(0, cell, 0, 0, what), NONE);
            }
        }
        for (int cell : new int[] {-1, 2, 48, 64, Integer.MIN_VALUE, Integer.MAX_VALUE}) {
            due("cell " + cell, x.lie(0, cell, 0, 1, 0), NONE);
        }
        due("no kinds", Tape.reader("skater s 0 0;").lie(0, 0, 0, 0, 0), NONE);
        due("no skaters", Tape.reader("kind k 1;").lie(0, 0, 0, 0, 0), NONE);
    }
}
