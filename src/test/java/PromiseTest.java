import java.util.NoSuchElementException;

/** Each promise by answers worked out by hand: ordinary inputs, the edges that the document names, wrong inputs. */
public final class PromiseTest {
    private static final Check CHECK = new Check();
    private static final int NONE = PondReader.NONE;
    private static final int NO_INT = Integer.MIN_VALUE;
    private static final long NO_LONG = Long.MIN_VALUE;

    /**
     * <pre>
     * 0 . r .      x: cork at 0, y: cork at 3, r: reeds at 2, #: land at 5
     * 4 # 6 7      s: skater at 8, the shore at 11, a fly at 4 in step 2
     * s 9 . =
     * </pre>
     */
    private static final String POND = "pond 4 3;land 1 1;reed 2 0;shore 3 2;kind fly 10 - 5;kind stone 50 20 odds 3;"
        + "cork x 0 0;cork y 3 0;skater s 0 2;drop fly 0 1 2;";
    /** Five cells in a row; nothing gets weaker on the way. */
    private static final String ROW = "pond 5 1;loss 0;kind up 10;kind down - 10;cork m 2 0;skater s 2 0;";

    private PromiseTest() {
    }

    public static void main(String[] args) {
        newObject();
        feed();
        text();
        textKeepsOrResets();
        faults();
        faultsOfCount();
        faultsOfLaw();
        named();
        look();
        cell();
        drop();
        farAndWeak();
        rise();
        riseByShores();
        showsAndMost();
        law();
        lawValues();
        where();
        reachesAndFirst();
        lie();
        fall();
        cut();
        undo();
        noteAndStrike();
        known();
        tales();
        likeliest();
        fits();
        apart();
        looks();
        still();
        chance();
        keepAndBack();
        count();
        CHECK.end();
    }

    private static void about(int promise, String what) {
        CHECK.about("promise " + promise + ", " + what);
    }

    private static void newObject() {
        about(1, "a new object");
        PondReader x = new PondReader();
        int[] counts = {4, 4, 0, 0, 0, 0, 0, 0, 0, 0, 0, 0, 0};
        for (int what = 0; what < counts.length; what++) {
            CHECK.due("count(" + what + ")", x.count(what), counts[what]);
        }
        CHECK.due("text(1)", x.text(1), -2);
        CHECK.due("back()", x.back(), NONE);
        CHECK.due("undo()", x.undo(), NONE);
        CHECK.due("weak(0, 15)", x.weak(0, 15), 60);
        CHECK.due("NONE", NONE, -1);
        CHECK.due("feed", x.feed(0, 0, 0, 0, 0), 20);
    }

    private static void feed() {
        about(2, "feed");
        PondReader x = new PondReader();
        for (int i = 1; i <= 40; i++) {
            CHECK.due("feed " + i, x.feed(0x20202020, 0x0a0a0a0a, 0x20202020, 0x20202020, 0x20202020), 20 * i);
        }
        CHECK.due("feed beyond 800", x.feed(0, 0, 0, 0, 0), NONE);
        CHECK.due("text(801)", x.text(801), -2);
        CHECK.due("text(800)", x.text(800), 0);
        CHECK.due("feed behind text", x.feed(0x706f6e64, 0x20332035, 0x3b202020, 0xff000000, 0), 20);
        CHECK.due("text(12)", x.text(12), 1);
        CHECK.due("the highest byte first", x.count(0) * 10 + x.count(1), 35);
    }

    private static void text() {
        about(3, "text");
        PondReader x = new PondReader();
        CHECK.due("text(0)", x.text(0), 0);
        CHECK.due("text(-1)", x.text(-1), -2);
        CHECK.due("lines", Tape.tell(x, POND), 10);
        x.feed(0x706f6e64, 0x20312031, 0x3b202020, 0, 0);
        CHECK.due("more than there are", x.text(21), -2);
        CHECK.due("the tape stays behind -2", x.feed(0, 0, 0, 0, 0), 40);
        CHECK.due("text(9)", x.text(9), 1);
        CHECK.due("the tape is empty then", x.text(1), -2);
        CHECK.due("count(2)", x.count(2), 0);
        CHECK.due("a text without lines", x.text(0), 0);
        CHECK.due("count(0)", x.count(0), 4);
        x.feed(0, 0, 0, 0, 0);
        CHECK.due("a fault", x.text(1), NONE);
        CHECK.due("the tape is empty behind a fault", x.feed(0, 0, 0, 0, 0), 20);
    }

    private static void textKeepsOrResets() {
        about(3, "what stays with a fault, what goes without");
        PondReader x = Tape.reader(POND);
        x.note(0, 0, 0);
        x.note(0, 1, 0);
        x.known(1);
        x.keep();
        x.fall(1, 0, 0);
        x.cut(2);
        CHECK.due("text", Tape.tell(x, "pond 1 1;kind q 1;land 0 0;land 0 0;"), NONE);
        int[] counts = {4, 3, 2, 2, 1, 2, 1, 0, 0, 2, 1, 2, 0};
        for (int what = 0; what < counts.length; what++) {
            CHECK.due("count(" + what + ")", x.count(what), counts[what]);
        }
        CHECK.due("named", x.named(0, Tape.letters("q")), NONE);
        CHECK.due("rise(0, 0)", x.rise(0, 0), 50);
        CHECK.due("text", Tape.tell(x, POND), 10);
        CHECK.due("notes", x.count(9), 0);
        CHECK.due("undo()", x.undo(), NONE);
        CHECK.due("back()", x.back(), NONE);
        CHECK.due("drops", x.count(5), 1);
        CHECK.due("reeds", x.count(12), 1);
        x.note(0, 0, 0);
        CHECK.due("all are known again", x.count(10), 1);
        CHECK.due("text", Tape.tell(x, "loss 1;thick 1;sent 1;kind a 1 2 3 odds 7;may m shore 0 0;law 1;"), 6);
        CHECK.due("text", Tape.tell(x, "kind a 4 odds 8;may m;loss 2;thick 2;sent 2;"), 5);
        CHECK.due("rises of the last one", looked(x, 0, 0), 1);
        CHECK.due("odds of the last one", looked(x, 0, 1), 8);
        CHECK.due("no law", x.count(8), 0);
        x.text(0);
        CHECK.due("nothing is left of it", x.count(2) + x.count(7) + x.weak(0, 1), 10);
    }

    private static void fault(String text, int number, int place) {
        PondReader x = new PondReader();
        int lines = Tape.tell(x, text);
        CHECK.due("text '" + text + "' has a fault", lines < 0, number != 0);
        CHECK.due("fault(0) of '" + text + "'", x.fault(0), number);
        CHECK.due("fault(1) of '" + text + "'", x.fault(1), place);
    }

    private static void right(String text) {
        fault(text, 0, NONE);
    }

    private static void faults() {
        about(4, "faults");
        PondReader x = new PondReader();
        CHECK.due("fault(0) at first", x.fault(0), 0);
        CHECK.due("fault(1) at first", x.fault(1), NONE);
        CHECK.due("fault(2)", x.fault(2), NONE);
        CHECK.due("fault(-1)", x.fault(-1), NONE);
        Tape.tell(x, "pond 9 9;");
        x.text(5);
        CHECK.due("-2 changes no fault", x.fault(0) * 10 + x.fault(1), 25);
        fault("pand 1 1;", 1, 0);
        fault(";", 1, 0);
        fault(" ;", 1, 1);
        fault("pond 1", 1, 6);
        fault("pond 1 1", 1, 8);
        fault("pond 1 1 \n", 1, 10);
        fault("pond 1 1 1;", 1, 9);
        fault("pond 1 -1;", 1, 7);
        fault("pond 1\t1;", 1, 6);
        fault("pond 1 1;\u00e9", 1, 9);
        fault("Pond 1 1;", 1, 0);
        fault("odds 1;", 1, 0);
        right("");
        right(" \n pond\n8  6 ;");
        right("pond 007 1;");
        fault("pond 0 1;", 2, 5);
        fault("pond 9 1;", 2, 5);
        fault("pond 1 0;", 2, 7);
        fault("pond 1 7;", 2, 7);
        fault("pond 4294967297 1;", 2, 5);
        fault("pond 99999999999999999999999 1;", 2, 5);
        fault("pond 2 2;pond 9 9;", 3, 9);
        fault("pond 2 2;land 0 0;pond 2 2;", 3, 18);
        right("kind k 1;loss 0;thick 0;sent 0;law 1;pond 2 2;");
        fault("may m;pond 2 2;", 4, 6);
        fault("skater m 0 0;pond 2 2;", 4, 13);
        fault("land 4 0;", 2, 5);
        fault("land 0 4;", 2, 7);
        fault("pond 2 2;reed 1 2;", 2, 16);
        right("pond 8 6;reed 7 5;");
        right("reed 0 0;shore 0 0;cork a 0 0;cork b 0 0;skater a 0 0;kind a 1;drop a 0 0 0;may a shore 0 0;");
        fault("reed 0 0;reed 0 0;", 5, 16);
        fault("shore 0 0;shore 0 0;", 5, 18);
        fault("land 0 0;land 0 0;", 5, 16);
        fault("land 0 0;reed 0 0;", 5, 16);
        fault("land 0 0;shore 0 0;", 5, 17);
        fault("land 0 0;cork a 0 0;", 5, 18);
        fault("land 0 0;skater a 0 0;", 5, 20);
        fault("land 0 0;kind k 1;drop k 0 0 0;", 5, 27);
        fault("land 0 0;may m shore 0 0;", 5, 23);
        fault("reed 0 0;land 0 0;", 5, 16);
        fault("shore 0 0;land 0 0;", 5, 17);
        fault("cork a 0 0;land 0 0;", 5, 18);
        fault("skater a 0 0;land 0 0;", 5, 20);
        fault("kind k 1;drop k 0 0 0;land 0 0;", 5, 29);
        fault("may m shore 0 0;land 0 0;", 5, 23);
        fault("may m shore 0 0 shore 0 0;", 5, 24);
        right("may m shore 0 0;may n shore 0 0;may o;shore 0 0;");
        fault("may m shore 0 0 cork", 1, 16);
        fault("kind abcdefg 1;", 1, 5);
        right("kind abcdef 1;");
        fault("kind pond 1;", 1, 5);
        fault("cork reeds 0 0;", 1, 5);
        fault("kind k;", 1, 6);
        fault("kind k odds 1;", 1, 7);
        right("kind k -99 99-0 odds 99;");
        fault("kind k 100;", 2, 7);
        fault("kind k -100;", 2, 8);
        fault("kind k - - 1;", 1, 9);
        fault("kind k -;", 1, 8);
        right("kind k 1 1 1 1 1 1;");
        fault("kind k 1 1 1 1 1 1 -1;", 2, 19);
        fault("kind k 1 1 1 1 1 1 100;", 2, 19);
        fault("kind k 1 odds 0;", 2, 14);
        fault("kind k 1 odds 100;", 2, 14);
        fault("kind k 1 odds 1 1;", 1, 16);
        fault("kind k 1;kind k 1;", 3, 14);
        fault("cork k 0 0;cork k 0 0;", 3, 16);
        fault("skater k 0 0;skater k 0 0;", 3, 20);
        fault("may k;may k;", 3, 10);
        fault("drop k 0 0 0;", 4, 5);
        fault("drop or 0 0 0;", 1, 5);
        fault("kind k 1;drop k 0 0 100;", 2, 20);
        fault("loss 51;", 2, 5);
        fault("thick 100;", 2, 6);
        fault("sent 100;", 2, 5);
        right("loss 50;thick 99;sent 99;");
        fault("loss 1;loss x;", 3, 7);
        fault("thick 1;thick 1;", 3, 8);
        fault("sent 1;sent 1;", 3, 7);
        fault("law 1;law 1;", 3, 6);
    }

    private static String rows(String line, int n) {
        StringBuilder text = new StringBuilder("pond 8 6;kind k 1;");
        for (int i = 0; i < n; i++) {
            text.append(line.replace("#", "" + (char) ('a' + i)).replace("X", "" + i % 8).replace("Y", "" + i / 8));
        }
        return text.toString();
    }

    private static void tooMany(String line, int most) {
        right(rows(line, most));
        fault(rows(line, most + 1), 2, rows(line, most).length());
    }

    private static void faultsOfCount() {
        about(4, "one too many");
        tooMany("land X Y;", 20);
        tooMany("reed X Y;", 20);
        tooMany("shore X Y;", 3);
        tooMany("cork # X Y;", 6);
        tooMany("skater # X Y;", 3);
        tooMany("drop k 0 0 99;", 8);
        tooMany("may # shore X Y;", 3);
        right("kind a 1;kind b 1;kind c 1;kind d 1;");
        fault("kind a 1;kind b 1;kind c 1;kind d 1;kind a;", 2, 36);
        right("may m shore 0 0 shore 1 0 shore 2 0;");
        fault("may m shore 0 0 shore 1 0 shore 2 0 shore x;", 2, 36);
    }

    private static void faultsOfLaw() {
        about(4, "faults of a law");
        fault("law;", 1, 3);
        fault("law x;", 1, 4);
        fault("law - 1;", 1, 4);
        fault("law 1 2;", 1, 6);
        fault("law 1 +;", 1, 7);
        fault("law 1 + * 2;", 1, 8);
        fault("law 1 < 2 < 3;", 1, 10);
        fault("law 1 < 2 + 3 = 3;", 1, 14);
        right("law (1 < 2) < 3;");
        right("law 1 < 2 and 3 < 4 or not 5 = 6;");
        fault("law 1 < not 2;", 1, 8);
        fault("law 1 + not 2;", 1, 8);
        right("law not not (not 2) and not 1;");
        fault("law 1 < = 2;", 1, 8);
        fault("law 1 >< 2;", 1, 7);
        fault("law 1 =< 2;", 1, 7);
        right("law (1<=2)+(1>=2)+(1<>2)+(1=2)+(1<2)+(1>2);");
        fault("law 10000;", 2, 4);
        right("law 9999;");
        fault("law (1;", 1, 6);
        fault("law 1);", 1, 5);
        fault("law ();", 1, 5);
        right("law ((((((((1))))))))+((1));");
        fault("law (((((((((1)))))))));", 2, 12);
        fault("law 1 and", 1, 9);
        fault("law rise odds;", 1, 9);
        String ones = "law 1" + "+1".repeat(31);
        right(ones + ";");
        right(ones.replace("law 1", "law not(1") + ");");
        fault(ones + "+1;", 2, ones.length() + 1);
        fault(ones + "++;", 1, ones.length() + 1);
        fault(ones.replace("law", "law not not"), 2, ones.length() + 7);
        right("law " + "(".repeat(8) + "not ".repeat(63) + "1" + ")".repeat(8) + ";");
        PondReader x = new PondReader();
        for (String law : new String[] {ones + ";", "law (((1*", ones.replace("law", "law not") + ";", "law 1<2;"}) {
            CHECK.due(law + " behind others", Tape.tell(x, law), law.endsWith(";") ? 1 : NONE);
        }
        CHECK.due("knots of the last one", x.count(8), 3);
    }

    private static void named() {
        about(5, "named");
        PondReader x = Tape.reader(POND + "kind abcdef 1;cork fly 0 0;may zz;may a;");
        CHECK.due("kind fly", x.named(0, 6 << 25 | 12 << 20 | 25 << 15), 0);
        CHECK.due("kind stone", x.named(0, Tape.letters("stone")), 1);
        CHECK.due("kind abcdef", x.named(0, Tape.letters("abcdef")), 2);
        CHECK.due("cork y", x.named(1, Tape.letters("y")), 1);
        CHECK.due("cork fly", x.named(1, Tape.letters("fly")), 2);
        CHECK.due("skater s", x.named(2, Tape.letters("s")), 0);
        CHECK.due("may a", x.named(3, Tape.letters("a")), 1);
        CHECK.due("skater fly", x.named(2, Tape.letters("fly")), NONE);
        CHECK.due("kind fl", x.named(0, Tape.letters("fl")), NONE);
        CHECK.due("no letters", x.named(0, 0), NONE);
        CHECK.due("more than 30 bits", x.named(0, Tape.letters("fly") | 1 << 30), NONE);
        CHECK.due("below 0", x.named(0, Tape.letters("fly") | 1 << 31), NONE);
        CHECK.due("what -1", x.named(-1, Tape.letters("fly")), NONE);
        CHECK.due("what 4", x.named(4, Tape.letters("a")), NONE);
    }

    private static int looked(PondReader x, int kind, int what) {
        try {
            return x.look(kind, what);
        } catch (IndexOutOfBoundsException e) {
            return -101;
        } catch (NoSuchElementException e) {
            return -102;
        }
    }

    private static void look() {
        about(6, "look");
        PondReader x = Tape.reader(POND);
        CHECK.due("look(0, 0)", looked(x, 0, 0), 2);
        CHECK.due("look(0, 1)", looked(x, 0, 1), 1);
        CHECK.due("look(1, 1)", looked(x, 1, 1), 3);
        CHECK.due("look(2, 0)", looked(x, 2, 0), -101);
        CHECK.due("look(-1, 0)", looked(x, -1, 0), -101);
        CHECK.due("look(2, 9)", looked(x, 2, 9), -101);
        CHECK.due("look(0, 2)", looked(x, 0, 2), -102);
        CHECK.due("look(0, -1)", looked(x, 0, -1), -102);
        CHECK.due("six rises", looked(Tape.reader("kind k 1 2 3 4 5 6;"), 0, 0), 6);
    }

    private static void cell() {
        about(7, "cell");
        PondReader x = Tape.reader(POND + "cork z 0 0;");
        int[][] due = {{0, 0, 0}, {2, 0, 1}, {5, 0, 2}, {11, 1, 1}, {10, 1, 0}, {5, 1, 0}, {0, 2, 0}, {3, 2, 1},
            {4, 2, NONE}, {4, 3, 1}, {0, 3, 0}, {5, 3, 0}, {12, 0, NONE}, {-1, 0, NONE}, {0, 4, NONE}, {0, -1, NONE}};
        for (int[] d : due) {
            CHECK.due("cell(" + d[0] + ", " + d[1] + ")", x.cell(d[0], d[1]), d[2]);
        }
        x.fall(1, 4, 99);
        x.cut(2);
        CHECK.due("drops there now", x.cell(4, 3), 2);
        CHECK.due("reeds there now", x.cell(2, 0), 0);
    }

    private static void drop() {
        about(8, "drop");
        PondReader x = Tape.reader(POND);
        x.fall(1, 7, 99);
        int[][] due = {{0, 0, 0}, {0, 1, 4}, {0, 2, 2}, {1, 0, 1}, {1, 1, 7}, {1, 2, 99}, {2, 0, NONE}, {-1, 0, NONE},
            {0, 3, NONE}, {0, -1, NONE}};
        for (int[] d : due) {
            CHECK.due("drop(" + d[0] + ", " + d[1] + ")", x.drop(d[0], d[1]), d[2]);
        }
    }

    private static void farAndWeak() {
        PondReader x = Tape.reader(POND);
        int[][] due = {{0, 0, 0, 0}, {0, 3, 3, 60}, {3, 0, 3, 60}, {0, 2, 2, 50}, {2, 0, 2, 20}, {2, 2, 0, 0},
            {4, 6, 4, 40}, {6, 4, 4, 40}, {4, 3, 4, 70}, {4, 11, 4, 40}, {5, 0, NONE, NONE}, {0, 5, NONE, NONE},
            {0, 12, NONE, NONE}, {-1, 0, NONE, NONE}, {12, 0, NONE, NONE}, {0, -1, NONE, NONE}};
        for (int[] d : due) {
            about(9, "far");
            CHECK.due("far(" + d[0] + ", " + d[1] + ")", x.far(d[0], d[1]), d[2]);
            about(10, "weak");
            CHECK.due("weak(" + d[0] + ", " + d[1] + ")", x.weak(d[0], d[1]), d[3]);
        }
        PondReader parted = Tape.reader("pond 3 1;land 1 0;");
        about(9, "no way");
        CHECK.due("far(0, 2)", parted.far(0, 2), -2);
        about(10, "no way, much, and few steps ahead of little weakness");
        CHECK.due("weak(0, 2)", parted.weak(0, 2), -2);
        CHECK.due("weak above 100", Tape.reader("pond 3 1;reed 1 0;reed 2 0;loss 50;thick 99;").weak(0, 2), 298);
        CHECK.due("thick 0", Tape.reader("pond 3 1;reed 1 0;thick 0;loss 1;").weak(0, 2), 2);
        CHECK.due("not round the reeds", Tape.reader("pond 3 2;reed 1 0;").weak(0, 2), 50);
    }

    private static void rise() {
        about(11, "rise");
        PondReader x = Tape.reader("pond 2 1;kind k 7 -7;loss 15;drop k 0 0 0;drop k 1 0 1;");
        int[][] due = {{0, 0, 7}, {0, 1, -7}, {0, 2, 5}, {0, 3, -5}, {0, 4, 0}, {1, 0, 0}, {1, 1, 12}, {1, 2, -12},
            {1, 3, 0}, {1, 199, 0}, {1, 200, NO_INT}, {1, -1, NO_INT}, {2, 0, NO_INT}, {-1, 0, NO_INT}};
        for (int[] d : due) {
            CHECK.due("rise(" + d[0] + ", " + d[1] + ")", x.rise(d[0], d[1]), d[2]);
        }
        CHECK.due("on land", Tape.reader(POND).rise(5, 2), NO_INT);
        PondReader weak = Tape.reader("pond 3 1;loss 50;thick 1;reed 2 0;kind k 99;drop k 0 0 0;");
        CHECK.due("half", weak.rise(1, 1), 49);
        CHECK.due("nothing is left", weak.rise(2, 2), 0);
        PondReader parted = Tape.reader("pond 3 1;land 1 0;kind k 99;drop k 0 0 0;shore 2 0;");
        CHECK.due("no way there", parted.most(2, 0), 0);
        CHECK.due("the last step", Tape.reader("kind k 0 0 0 0 0 3;drop k 0 0 99;").rise(0, 104), 3);
    }

    private static void riseByShores() {
        about(11, "rise by shores");
        PondReader x = Tape.reader("pond 3 1;kind k 99;shore 2 0;shore 0 0;drop k 0 0 0;");
        CHECK.due("in the drop's cell, a shore", x.rise(0, 0), 99 + 49);
        CHECK.due("back from the other shore", x.rise(0, 4), 31);
        CHECK.due("in the other shore", x.rise(2, 2), 79 + 39 + 39);
        CHECK.due("between, from the own shore", x.rise(1, 1), 89 + 44);
        CHECK.due("between, from the other one", x.rise(1, 3), 35);
        PondReader cut = Tape.reader("pond 2 1;kind k -99;loss 15;sent 33;shore 1 0;drop k 0 0 5;");
        CHECK.due("each part is cut", cut.rise(0, 7), -22);
        CHECK.due("nothing is sent", Tape.reader("pond 2 1;kind k 9;sent 0;shore 1 0;drop k 0 0 0;").rise(0, 2), 0);
    }

    private static void showsAndMost() {
        about(12, "shows");
        PondReader x = Tape.reader(POND);
        int[][] due = {{0, 3, 9}, {0, 4, -4}, {1, 6, 3}, {1, 8, 2}, {1, 199, 0}, {0, 200, NO_INT}, {0, -1, NO_INT},
            {2, 0, NO_INT}, {-1, 0, NO_INT}};
        for (int[] d : due) {
            CHECK.due("shows(" + d[0] + ", " + d[1] + ")", x.shows(d[0], d[1]), d[2]);
        }
        about(13, "most");
        int[][] most = {{0, 0, 9}, {0, 1, 3}, {0, 2, -4}, {0, 3, 4}, {0, 4, NO_INT}, {0, -1, NO_INT}, {5, 0, NO_INT},
            {12, 0, NO_INT}, {-1, 3, NO_INT}};
        for (int[] d : most) {
            CHECK.due("most(" + d[0] + ", " + d[1] + ")", x.most(d[0], d[1]), d[2]);
        }
        PondReader twice = Tape.reader("pond 1 1;kind k 3 -2;drop k 0 0 1;drop k 0 0 50;");
        CHECK.due("the first greatest", twice.most(0, 1), 1);
        CHECK.due("the first least", twice.most(0, 3), 2);
        CHECK.due("0 is least of rises", Tape.reader("pond 1 1;kind k 3;drop k 0 0 0;").most(0, 3), 1);
    }

    private static final String MIDDLE = "pond 3 3;kind up 10;skater s 1 1;reed 1 0;drop up 1 1 0;land 2 1;";

    private static void law() {
        about(14, "law");
        for (int way = 0; way < 5; way++) {
            boolean land = way == 2;
            String text = MIDDLE + "law ";
            CHECK.due("way " + way, Tape.reader(text + "way;").law(0, way), land ? NO_LONG : way);
            CHECK.due("here " + way, Tape.reader(text + "here;").law(0, way), land ? NO_LONG : 10);
            CHECK.due("rise " + way, Tape.reader(text + "rise;").law(0, way), land ? NO_LONG : way == 0 ? 10 : 0);
            CHECK.due("reeds " + way, Tape.reader(text + "reeds;").law(0, way), land ? NO_LONG : way == 1 ? 1 : 0);
            CHECK.due("step " + way, Tape.reader(text + "step+7;").law(0, way), land ? NO_LONG : 7);
        }
        PondReader x = Tape.reader(MIDDLE + "law 1;");
        CHECK.due("law(1, 0)", x.law(1, 0), NO_LONG);
        CHECK.due("law(-1, 0)", x.law(-1, 0), NO_LONG);
        CHECK.due("law(0, 5)", x.law(0, 5), NO_LONG);
        CHECK.due("law(0, -1)", x.law(0, -1), NO_LONG);
        CHECK.due("no law", Tape.reader(MIDDLE).law(0, 0), NO_LONG);
        CHECK.due("beyond the pond", Tape.reader("skater s 0 0;law 1;").law(0, 1), NO_LONG);
        CHECK.due("beyond the pond", Tape.reader("skater s 0 0;law 1;").law(0, 4), NO_LONG);
        CHECK.due("beyond the pond", Tape.reader("skater s 3 3;law 1;").law(0, 2), NO_LONG);
        CHECK.due("beyond the pond", Tape.reader("skater s 3 3;law 1;").law(0, 3), NO_LONG);
    }

    private static void worth(String law, long due) {
        CHECK.due(law, Tape.reader("skater s 0 0;law " + law + ";").law(0, 0), due);
    }

    private static void lawValues() {
        about(14, "values");
        worth("7/2", 3);
        worth("(0-7)/2", -3);
        worth("1-2-3", -4);
        worth("2+3*4", 14);
        worth("(2+3)*4", 20);
        worth("8/4/2", 1);
        worth("8/(4/2)", 4);
        worth("not 0", 1);
        worth("not 5", 0);
        worth("not not 5", 1);
        worth("3 and 0", 0);
        worth("3 and 2", 1);
        worth("0 or 5", 1);
        worth("0 or 0", 0);
        worth("1 or 0 and 0", 1);
        worth("not 0 and 0", 0);
        worth("not 1<2", 0);
        worth("1<2", 1);
        worth("2<2", 0);
        worth("2<=2", 1);
        worth("3<=2", 0);
        worth("2=2", 1);
        worth("2=1+1", 1);
        worth("2<>2", 0);
        worth("2<>1", 1);
        worth("2>=2", 1);
        worth("1>=2", 0);
        worth("3>2", 1);
        worth("2>2", 0);
        worth("1/0", NO_LONG);
        worth("1 or 1/0", NO_LONG);
        worth("0 and 1/0", NO_LONG);
        worth("not 1/0", NO_LONG);
        worth("0*(1/0)", NO_LONG);
        worth("1000*1000*1000*1000", 1000000000000L);
        worth("1000*1000*1000*1000+1", NO_LONG);
        worth("0-1000*1000*1000*1000", -1000000000000L);
        worth("0-1000*1000*1000*1000-1", NO_LONG);
        worth("1000*1000*1000*1000+1-1", NO_LONG);
        worth("1000*1000*1000*1001", NO_LONG);
        worth("(0-1000*1000*1000)*1000", -1000000000000L);
        worth("(256*256*256*256)*(256*256*256*256)", NO_LONG);
    }

    private static void path(String text, int... cells) {
        PondReader x = Tape.reader(text);
        for (int n = 0; n < cells.length; n++) {
            CHECK.due("where(0, " + n + ") of " + text, x.where(0, n), cells[n]);
        }
    }

    private static void where() {
        about(15, "where");
        path(POND, 8, 8, 8, 4, 0, 1, 2, 6);
        path(ROW, 2, 2, 2);
        path("pond 3 3;skater s 1 1;law way;", 4, 3, 6, 7, 6, 7);
        path("pond 3 3;skater s 1 1;law way>0;", 4, 1, 2, 5, 2, 5);
        path("pond 3 3;skater s 1 1;law 1/way;", 4, 1, 1);
        path("pond 3 3;skater s 1 1;law 0-way;", 4, 4);
        path("pond 3 3;skater s 1 1;law 0-1/way;", 4, 4);
        path("pond 3 3;skater s 1 1;law step=1 and way=2;", 4, 4, 5, 5);
        path("pond 3 3;skater s 1 1;reed 1 2;reed 1 1;law reeds*way;", 4, 7, 4, 7);
        path("pond 3 1;skater s 0 0;kind k 9;drop k 2 0 0;law 0-(rise<here)*way;", 0, 0);
        PondReader x = Tape.reader("pond 3 3;skater a 1 1;skater b 0 0;law way;");
        CHECK.due("where(1, 1)", x.where(1, 1), 3);
        CHECK.due("where(0, 100)", x.where(0, 100), 6);
        CHECK.due("where(0, 101)", x.where(0, 101), NONE);
        CHECK.due("where(0, -1)", x.where(0, -1), NONE);
        CHECK.due("where(2, 0)", x.where(2, 0), NONE);
        CHECK.due("where(-1, 0)", x.where(-1, 0), NONE);
    }

    private static void reachesAndFirst() {
        about(16, "reaches");
        PondReader x = Tape.reader("pond 3 3;land 2 2;skater a 1 1;skater b 0 0;skater c 0 0;law way;");
        int[][] due = {{0, 4, 0}, {0, 3, 1}, {1, 3, 1}, {0, 6, 2}, {0, 7, 3}, {0, 5, -2}, {0, 8, -2}, {0, 9, NONE},
            {0, -1, NONE}, {3, 0, NONE}, {-1, 0, NONE}};
        for (int[] d : due) {
            CHECK.due("reaches(" + d[0] + ", " + d[1] + ")", x.reaches(d[0], d[1]), d[2]);
        }
        PondReader late = Tape.reader("pond 2 1;skater s 0 0;law way=2 and step=99;");
        CHECK.due("ahead of step 100", late.reaches(0, 1), 100);
        CHECK.due("later", Tape.reader("pond 2 1;skater s 0 0;law way=2 and step=100;").reaches(0, 1), -2);
        about(17, "first");
        int[][] first = {{0, 1}, {4, 0}, {3, 0}, {6, 0}, {5, -2}, {8, -2}, {9, NONE}, {-1, NONE}};
        for (int[] d : first) {
            CHECK.due("first(" + d[0] + ")", x.first(d[0]), d[1]);
        }
        CHECK.due("nobody", Tape.reader("").first(0), -2);
    }

    private static void lie() {
        about(18, "lie");
        PondReader x = Tape.reader(ROW + "drop up 0 0 0;");
        int[][] due = {{0, 1, 0, 2, 0, 0}, {0, 1, 0, 2, 1, 3}, {0, 1, 1, 2, 0, 0}, {0, 1, 1, 2, 1, 0},
            {0, 2, 0, 5, 0, -2}, {0, 4, 0, 2, 0, -3}, {0, 1, 0, 1, 0, -3}, {0, 1, 0, 61, 0, NONE},
            {0, 1, 0, -1, 0, NONE}, {0, 1, 0, 2, 2, NONE}, {0, 1, 0, 2, -1, NONE}, {0, 1, 2, 2, 0, NONE},
            {0, 1, -1, 2, 0, NONE}, {0, 5, 0, 2, 0, NONE}, {0, -1, 0, 2, 0, NONE}, {1, 1, 0, 2, 0, NONE},
            {-1, 1, 0, 2, 0, NONE}};
        for (int[] d : due) {
            String call = "lie(" + d[0] + ", " + d[1] + ", " + d[2] + ", " + d[3] + ", " + d[4] + ")";
            CHECK.due(call, x.lie(d[0], d[1], d[2], d[3], d[4]), d[5]);
        }
        CHECK.due("a lie leaves no drop", x.count(5) * 1000 + x.rise(2, 2), 1010);
        CHECK.due("on land it is never", Tape.reader(POND).lie(0, 5, 0, 3, 0), -3);
        String law = "pond 2 1;loss 0;kind k 1;skater s 0 0;law (step=#)*way*(1-rise);";
        CHECK.due("step 15 is in time", Tape.reader(law.replace("#", "15")).lie(0, 1, 0, 60, 0), 14);
        CHECK.due("step 16", Tape.reader(law.replace("#", "16")).lie(0, 1, 0, 60, 0), 15);
        CHECK.due("step 17 is too late", Tape.reader(law.replace("#", "17")).lie(0, 1, 0, 60, 0), -2);
        CHECK.due("the first cell of step 15", Tape.reader(law.replace("#", "16")).lie(0, 1, 0, 60, 1), 0);
    }

    private static void fall() {
        about(19, "fall");
        PondReader x = Tape.reader(POND);
        int[][] wrong = {{2, 0, 0}, {-1, 0, 0}, {0, 5, 0}, {0, 12, 0}, {0, -1, 0}, {0, 0, 100}, {0, 0, -1}};
        for (int[] w : wrong) {
            CHECK.due("fall(" + w[0] + ", " + w[1] + ", " + w[2] + ")", x.fall(w[0], w[1], w[2]), NONE);
        }
        for (int i = 1; i < 16; i++) {
            CHECK.due("fall " + i, x.fall(1, 11, 99), i);
        }
        CHECK.due("a 17th", x.fall(1, 11, 99), NONE);
        CHECK.due("count(5)", x.count(5), 16);
        CHECK.due("count(11)", x.count(11), 15);
        CHECK.due("what they make rise", x.rise(11, 100), 15 * (20 + 10));
    }

    private static void cut() {
        about(20, "cut");
        PondReader x = Tape.reader(POND);
        CHECK.due("cut(0)", x.cut(0), false);
        CHECK.due("cut(5)", x.cut(5), false);
        CHECK.due("cut(12)", x.cut(12), false);
        CHECK.due("cut(66)", x.cut(66), false);
        CHECK.due("cut(-1)", x.cut(-1), false);
        CHECK.due("cut(-62)", x.cut(-62), false);
        CHECK.due("shows ahead", x.shows(1, 6), 3);
        CHECK.due("cut(2)", x.cut(2), true);
        CHECK.due("cut(2) again", x.cut(2), false);
        CHECK.due("weak(0, 3)", x.weak(0, 3), 30);
        CHECK.due("shows then", x.shows(1, 6), 6);
    }

    private static void undo() {
        about(21, "undo");
        PondReader x = Tape.reader(POND);
        x.fall(1, 0, 0);
        x.cut(2);
        CHECK.due("undo()", x.undo(), 1);
        CHECK.due("the reeds are there again", x.weak(0, 3), 60);
        CHECK.due("the drop is there still", x.rise(0, 0), 50);
        CHECK.due("undo()", x.undo(), 0);
        CHECK.due("the drop is gone", x.rise(0, 0), 0);
        CHECK.due("undo()", x.undo(), NONE);
        CHECK.due("told drops stay", x.count(5), 1);
        PondReader much = Tape.reader(rows("reed X Y;", 12));
        for (int cell = 0; cell < 12; cell++) {
            much.cut(cell);
        }
        for (int i = 0; i < 16; i++) {
            much.fall(0, 0, 0);
        }
        CHECK.due("count(11)", much.count(11), 20);
        for (int left = 19; left >= 0; left--) {
            CHECK.due("undo()", much.undo(), left);
        }
        CHECK.due("undo() of the 21st", much.undo(), NONE);
        CHECK.due("drops", much.count(5), 0);
        CHECK.due("reeds", much.count(12), 4);
        for (int cell = 0; cell < 12; cell++) {
            CHECK.due("reeds in cell " + cell, much.cell(cell, 0), cell < 8 ? 0 : 1);
        }
    }

    private static void noteAndStrike() {
        about(22, "note");
        PondReader x = Tape.reader(POND);
        int[][] wrong = {{2, 0, 0}, {-1, 0, 0}, {0, 200, 0}, {0, -1, 0}, {0, 0, 10000}, {0, 0, -10000}};
        for (int[] w : wrong) {
            CHECK.due("note(" + w[0] + ", " + w[1] + ", " + w[2] + ")", x.note(w[0], w[1], w[2]), NONE);
        }
        about(23, "strike");
        CHECK.due("strike(0)", x.strike(0), NONE);
        about(22, "note");
        CHECK.due("note(0, 199, 9999)", x.note(0, 199, 9999), 0);
        CHECK.due("note(1, 0, -9999)", x.note(1, 0, -9999), 1);
        about(23, "strike");
        CHECK.due("strike(2)", x.strike(2), NONE);
        CHECK.due("strike(-1)", x.strike(-1), NONE);
        CHECK.due("fits()", x.fits(), 0);
        CHECK.due("strike(0)", x.strike(0), 2);
        CHECK.due("strike(1)", x.strike(1), 3);
        CHECK.due("fits() without both", x.fits(), 1);
        CHECK.due("strike(3)", x.strike(3), 4);
        CHECK.due("fits() with a struck strike", x.fits(), 0);
        CHECK.due("strike(4)", x.strike(4), 5);
        CHECK.due("fits() with that struck too", x.fits(), 1);
        CHECK.due("strike(4) again", x.strike(4), 6);
        CHECK.due("strike(5)", x.strike(5), 7);
        CHECK.due("fits(), one strike of 4 is left", x.fits(), 1);
        CHECK.due("strike(2)", x.strike(2), 8);
        CHECK.due("fits() with note 0 again", x.fits(), 0);
        CHECK.due("strike(8)", x.strike(8), 9);
        CHECK.due("fits() without it", x.fits(), 1);
        for (int i = 10; i < 32; i++) {
            CHECK.due("strike " + i, x.strike(0), i);
        }
        CHECK.due("a 33rd", x.strike(0), NONE);
        about(22, "note");
        CHECK.due("a 33rd", x.note(0, 0, 0), NONE);
        PondReader full = Tape.reader(ROW);
        for (int i = 0; i < 31; i++) {
            CHECK.due("note " + i, full.note(0, 0, 0), i);
        }
        CHECK.due("tales()", full.tales(), 2 * 5 * 21 - 2);
        CHECK.due("note 31", full.note(0, 1, 10), 31);
        CHECK.due("tales()", full.tales(), 3);
        CHECK.due("fits()", full.fits(), 0);
    }

    private static void known() {
        about(24, "known");
        PondReader x = Tape.reader(POND);
        CHECK.due("known(1)", x.known(1), false);
        CHECK.due("known(-2)", x.known(-2), false);
        x.note(0, 3, 9);
        x.note(0, 3, 8);
        x.strike(1);
        CHECK.due("fits() by all", x.fits(), 1);
        CHECK.due("known(2)", x.known(2), true);
        CHECK.due("fits() without the strike", x.fits(), 0);
        CHECK.due("known(4)", x.known(4), false);
        CHECK.due("count(10)", x.count(10), 2);
        x.strike(1);
        CHECK.due("none to come", x.fits(), 0);
        CHECK.due("known(0)", x.known(0), true);
        CHECK.due("fits() by none", x.fits(), 1);
        CHECK.due("known(4)", x.known(4), true);
        x.note(0, 3, 8);
        CHECK.due("count(10)", x.count(10), 4);
        CHECK.due("fits() by four", x.fits(), 1);
        CHECK.due("known(-1)", x.known(-1), true);
        CHECK.due("count(10)", x.count(10), 5);
        CHECK.due("fits() by all", x.fits(), 0);
        x.strike(4);
        CHECK.due("and by those to come", x.fits(), 1);
    }

    private static void tales() {
        about(25, "tales");
        PondReader x = Tape.reader(ROW + "land 4 0;drop up 0 0 0;");
        CHECK.due("without notes", x.tales(), 2 * 4 * 21);
        x.note(0, 3, 10);
        x.note(0, 2, 0);
        CHECK.due("tales()", x.tales(), 4);
        about(26, "tale");
        int[][] due = {{0, 0, 1}, {0, 1, 2}, {0, 2, 3}, {0, 3, 2}};
        for (int k = 0; k < 4; k++) {
            for (int what = 0; what < 3; what++) {
                CHECK.due("tale(" + k + ", " + what + ")", x.tale(k, what), due[k][what]);
            }
        }
        CHECK.due("tale(4, 0)", x.tale(4, 0), -2);
        CHECK.due("tale(4, 3)", x.tale(4, 3), NONE);
        CHECK.due("tale(4, -1)", x.tale(4, -1), NONE);
        CHECK.due("tale(-1, 0)", x.tale(-1, 0), NONE);
        CHECK.due("tale(0, 3)", x.tale(0, 3), NONE);
        CHECK.due("tale(0, -1)", x.tale(0, -1), NONE);
        about(25, "tales");
        x.note(0, 3, 11);
        CHECK.due("none", x.tales(), 0);
        x.strike(2);
        CHECK.due("struck", x.tales(), 4);
        PondReader late = Tape.reader("pond 3 1;loss 0;kind a 5;cork m 0 0;");
        late.note(0, 22, 5);
        CHECK.due("step 20 is the last", late.tales(), 1);
        CHECK.due("its cell", late.tale(0, 1), 2);
        CHECK.due("its step", late.tale(0, 2), 20);
        PondReader shore = Tape.reader("pond 3 1;loss 0;kind a 8;cork m 0 0;shore 2 0;");
        shore.note(0, 4, 4);
        CHECK.due("by a shore too", shore.tales(), 2);
        CHECK.due("its step", shore.tale(0, 2), 0);
    }

    private static void likeliest() {
        about(27, "likeliest");
        PondReader x = Tape.reader("pond 3 1;loss 0;cork m 0 0;kind a 5;kind b 5 odds 2;kind c 5 odds 2;kind d 6 odds 9;");
        x.note(0, 1, 5);
        CHECK.due("likeliest(0)", x.likeliest(0), 1);
        CHECK.due("likeliest(1)", x.likeliest(1), 0);
        CHECK.due("likeliest(2)", x.likeliest(2), 1);
        CHECK.due("likeliest(3)", x.likeliest(3), NONE);
        CHECK.due("likeliest(-1)", x.likeliest(-1), NONE);
        x.note(0, 1, 7);
        CHECK.due("no tales", x.likeliest(0), -2);
        CHECK.due("no tales, wrong what", x.likeliest(3), NONE);
    }

    private static void fits() {
        about(28, "fits");
        PondReader x = Tape.reader("pond 3 1;loss 0;sent 50;kind a 20;cork m 0 0;drop a 1 0 0;shore 2 0;"
            + "may p shore 0 0;may q;may r shore 2 0 shore 0 0;");
        CHECK.due("without notes", x.fits(), 15);
        x.note(0, 3, 10);
        CHECK.due("a shore at 2", x.fits(), 12);
        x.note(0, 1, 20);
        CHECK.due("none at 0", x.fits(), 8);
        x.known(1);
        CHECK.due("known by 1", x.fits(), 12);
        x.fall(0, 0, 3);
        CHECK.due("with all drops", x.fits(), 0);
    }

    private static void apart() {
        about(29, "apart");
        PondReader x = Tape.reader("pond 3 1;loss 0;kind a 5;kind b 6;cork x 1 0;cork y 0 0;cork z 0 0;");
        CHECK.due("the first that does", x.apart(1, 2, 0x0200), 2);
        CHECK.due("kinds by the first", x.apart(3, 1, 0), 1);
        CHECK.due("both kinds in both cells", x.apart(3, 2, 0x0200), 2);
        CHECK.due("one drop", x.apart(2, 1, 2), 0);
        CHECK.due("more cells than n", x.apart(1, 1, 0x0300), 0);
        CHECK.due("no kinds", x.apart(0, 1, 0), NONE);
        CHECK.due("a kind too many", x.apart(4, 1, 0), NONE);
        CHECK.due("kinds below 0", x.apart(-1, 1, 0), NONE);
        CHECK.due("n 0", x.apart(1, 0, 0), NONE);
        CHECK.due("n 7", x.apart(1, 7, 0x0605040302010L), NONE);
        CHECK.due("a cell twice", x.apart(1, 2, 0), NONE);
        CHECK.due("no such cell", x.apart(1, 1, 3), NONE);
        CHECK.due("no such cell", x.apart(1, 1, 64), NONE);
        CHECK.due("land", Tape.reader(POND).apart(1, 1, 5), NONE);
        PondReader two = Tape.reader("pond 3 3;loss 0;kind a 5;cork o 2 2;cork p 1 0;cork q 0 1;cork r 0 0;");
        CHECK.due("two corks", two.apart(1, 3, 0x060200), 3);
        CHECK.due("not by all", Tape.reader(ROW).apart(1, 2, 0x0301), -2);
        CHECK.due("not by all, with a third", Tape.reader(ROW).apart(1, 3, 0x020301), -2);
        CHECK.due("kinds that are alike", Tape.reader(ROW + "kind too 10;").apart(5, 1, 0), -2);
        CHECK.due("no corks", Tape.reader("kind a 1;").apart(1, 2, 0x0100), -2);
        CHECK.due("no corks, one drop", Tape.reader("kind a 1;").apart(1, 1, 0), 0);
        PondReader all = Tape.reader("pond 4 4;loss 1;kind a 50;kind b 51;kind c 52;kind d 53;cork o 0 0;cork p 3 0;");
        CHECK.due("four kinds in six cells", all.apart(15, 6, 0x05040b03070fL), 3);
        StringBuilder maze = new StringBuilder("pond 8 6;loss 0;kind a 0 0 0 0 0 9;kind b 0 0 0 0 0 8;");
        for (int x1 = 0; x1 < 7; x1++) {
            maze.append("land " + x1 + " 1;land " + (x1 + 1) + " 3;");
        }
        PondReader far = Tape.reader(maze + "cork c 0 0;");
        CHECK.due("how far", far.far(0, 47), 26);
        CHECK.due("step 30 is in time", far.apart(3, 1, 39), 1);
        CHECK.due("step 31 is too late", far.apart(3, 1, 47), -2);
    }

    private static void looks() {
        about(30, "looks");
        PondReader x = Tape.reader("pond 3 2;loss 0;land 1 1;kind a 5;kind b 6 -1;cork y 0 0;cork z 2 0;");
        CHECK.due("the cell", x.looks(0, 1, 2, 0), 2);
        CHECK.due("the sum", x.looks(0, 1, 2, 1), 2 + 2);
        CHECK.due("the same kind", x.looks(0, 0, 3, 0), 3);
        CHECK.due("the same kind, the sum", x.looks(0, 0, 3, 1), 0);
        CHECK.due("land", x.looks(0, 1, 4, 0), NONE);
        CHECK.due("no such cell", x.looks(0, 1, 6, 0), NONE);
        CHECK.due("no such kind", x.looks(2, 1, 0, 0), NONE);
        CHECK.due("no such like", x.looks(0, -1, 0, 0), NONE);
        CHECK.due("no such what", x.looks(0, 1, 0, 2), NONE);
        CHECK.due("no such what", x.looks(0, 1, 0, -1), NONE);
        PondReader row = Tape.reader(ROW);
        CHECK.due("the first of several", row.looks(0, 0, 3, 0), 1);
        CHECK.due("the first of all", row.looks(1, 0, 1, 0), 0);
        CHECK.due("without corks", Tape.reader("land 0 0;kind a 1;").looks(0, 0, 9, 0), 1);
    }

    private static void still() {
        about(31, "still");
        PondReader x = Tape.reader(ROW);
        CHECK.due("still(0, 0, 1, 4, 5)", x.still(0, 0, 1, 4, 5), 4);
        CHECK.due("still(0, 0, 1, 4, 0)", x.still(0, 0, 1, 4, 0), 14);
        CHECK.due("still(0, 0, 1, 0, 60)", x.still(0, 0, 1, 0, 60), 31);
        CHECK.due("still(0, 0, 0, 0, 60)", x.still(0, 0, 0, 0, 60), 0);
        CHECK.due("to 61", x.still(0, 0, 1, 4, 61), NONE);
        CHECK.due("to -1", x.still(0, 0, 1, 4, -1), NONE);
        CHECK.due("kind", x.still(2, 0, 1, 4, 5), NONE);
        CHECK.due("other", x.still(0, 0, -1, 4, 5), NONE);
        CHECK.due("cell", x.still(0, -1, 1, 4, 5), NONE);
        CHECK.due("there", x.still(0, 0, 1, 5, 5), NONE);
        x.fall(0, 2, 0);
        CHECK.due("without all others", x.still(0, 0, 1, 4, 5), 4);
        PondReader wide = Tape.reader("pond 8 6;land 7 4;kind k 1;");
        CHECK.due("all but land and the drop's cell", wide.still(0, 0, 0, 0, 0), (1L << 48) - 2 - (1L << 39));
        CHECK.due("land", wide.still(0, 39, 0, 0, 0), NONE);
    }

    private static void chance() {
        about(32, "chance");
        PondReader one = Tape.reader("pond 1 1;kind a 1;kind b -1;cork c 0 0;");
        int[] steps = {0, 0, 0, 1, 0, 1, 0, 0, 0, 1, 1, 0, 2, 2, 1, 1, 0};
        for (int step = 0; step < steps.length; step++) {
            CHECK.due("seed 0, step " + step, one.chance(0, 0, 1, 0, step), steps[step]);
            CHECK.due("never above 0, step " + step, one.chance(0, 1, 1, 0, step), 0);
        }
        PondReader two = Tape.reader("pond 2 1;land 1 0;kind a 1;cork c 0 0;");
        CHECK.due("seed 1, step 14", two.chance(1, 0, 1, 0, 14), 1);
        CHECK.due("seed 1, step 11", two.chance(1, 0, 1, 0, 11), 1);
        CHECK.due("seed 1, step 5", two.chance(1, 0, 1, 0, 5), 0);
        CHECK.due("the greatest seed, step 14", two.chance(2147483647, 0, 2, 0, 14), 2);
        CHECK.due("the greatest seed, step 13", two.chance(2147483647, 0, 2, 0, 13), 1);
        CHECK.due("step 40", two.chance(0, 0, 9, 0, 40), 0);
        CHECK.due("step 41", two.chance(0, 0, 9, 0, 41), NONE);
        CHECK.due("step -1", two.chance(0, 0, 9, 0, -1), NONE);
        CHECK.due("n 0", two.chance(0, 0, 0, 0, 0), NONE);
        CHECK.due("n 10", two.chance(0, 0, 10, 0, 0), NONE);
        CHECK.due("seed -1", two.chance(-1, 0, 1, 0, 0), NONE);
        CHECK.due("kind 1", two.chance(0, 1, 1, 0, 0), NONE);
        CHECK.due("cork 1", two.chance(0, 0, 1, 1, 0), NONE);
        CHECK.due("cork -1", two.chance(0, 0, 1, -1, 0), NONE);
    }

    private static void keepAndBack() {
        PondReader x = Tape.reader(POND);
        about(34, "back");
        CHECK.due("back() without keep()", x.back(), NONE);
        about(33, "keep");
        x.fall(1, 0, 0);
        CHECK.due("keep()", x.keep(), 2);
        CHECK.due("it leaves what can be undone", x.count(11), 1);
        x.fall(1, 0, 0);
        x.cut(2);
        x.undo();
        x.undo();
        x.undo();
        x.cut(2);
        about(34, "back");
        CHECK.due("back()", x.back(), 2);
        CHECK.due("rise(0, 0)", x.rise(0, 0), 50);
        CHECK.due("weak(0, 3)", x.weak(0, 3), 60);
        CHECK.due("nothing to undo", x.undo(), NONE);
        x.cut(2);
        about(33, "keep");
        CHECK.due("keep() in place of one ahead", x.keep(), 2);
        x.undo();
        x.fall(0, 0, 0);
        about(34, "back");
        CHECK.due("back()", x.back(), 2);
        CHECK.due("weak(0, 3)", x.weak(0, 3), 30);
        CHECK.due("back() again", x.back(), 2);
    }

    private static void count() {
        about(35, "count");
        PondReader x = Tape.reader("pond 7 5;law not (rise+1);kind a 1;kind b 1;kind c 1;cork a 0 0;cork b 0 0;"
            + "cork c 0 0;cork d 0 0;skater a 0 0;drop a 0 0 0;shore 0 0;shore 1 0;may a;may b;may c;reed 3 3;reed 4 4;");
        x.note(0, 0, 0);
        x.note(0, 0, 0);
        x.note(0, 0, 0);
        x.known(1);
        x.fall(0, 0, 0);
        x.fall(0, 0, 0);
        x.cut(32);
        int[] due = {7, 5, 3, 4, 1, 3, 2, 3, 4, 3, 1, 3, 1};
        for (int what = 0; what < due.length; what++) {
            CHECK.due("count(" + what + ")", x.count(what), due[what]);
        }
        CHECK.due("count(-1)", x.count(-1), NONE);
        CHECK.due("count(13)", x.count(13), NONE);
    }
}
