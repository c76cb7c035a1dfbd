import java.util.NoSuchElementException;

/** Promises 1 to 6 at their boundaries: a new object, the tape, the text, its faults, names. */
public final class EdgesOfTextTest {
    private static final int NONE = PondReader.NONE;
    private static final String[] LANGUAGE = {"pond", "land", "reed", "shore", "kind", "odds", "cork", "skater", "drop",
        "loss", "thick", "sent", "law", "may", "or", "and", "not", "rise", "here", "reeds", "way", "step"};
    /** One line of each sort, and what has to be told ahead of it. */
    private static final String[][] LINES = {{"", "pond 3 2"}, {"", "land 0 0"}, {"", "reed 0 0"}, {"", "shore 0 0"},
        {"", "kind k - 1 2 odds 3"}, {"", "cork c 0 0"}, {"", "skater s 0 0"}, {"kind k 1;", "drop k 0 0 0"},
        {"", "loss 1"}, {"", "thick 1"}, {"", "sent 1"}, {"", "law not ( rise + 1 ) < 2 and here or way * step"},
        {"", "may m shore 0 0 shore 1 0"}};
    /** The lines that tell of one cell, 0 0. */
    private static final String[] CELL_LINES = {"land 0 0;", "reed 0 0;", "shore 0 0;", "cork # 0 0;", "skater # 0 0;",
        "drop k 0 0 0;", "may # shore 0 0;"};

    private EdgesOfTextTest() {
    }

    public static void main(String[] args) {
        Suite.run(EdgesOfTextTest.class, 1, 2, 3, 4, 5, 6);
    }

    private static void due(String call, long got, long want) {
        Suite.due(call, got, want);
    }

    private static void due(String call, boolean got, boolean want) {
        Suite.due(call, got, want);
    }

    private static void fault(String text, int number, int place) {
        Suite.fault(text, number, place);
    }

    private static void right(String text) {
        Suite.right(text);
    }

    private static int blanks(PondReader x) {
        return x.feed(0x20202020, 0x20202020, 0x20202020, 0x20202020, 0x20202020);
    }

    private static int blanks(PondReader x, int feeds) {
        int length = NONE;
        for (int i = 0; i < feeds; i++) {
            length = blanks(x);
        }
        return length;
    }

    // "A TEXT without LINES": what is told without a LINE is 4 and 4, loss 10; all else is empty.
    private static void promise01NewObjectHasATextWithoutLines() {
        PondReader x = new PondReader();
        int[] counts = {4, 4, 0, 0, 0, 0, 0, 0, 0, 0, 0, 0, 0};
        for (int what = 0; what < counts.length; what++) {
            due("count(" + what + ")", x.count(what), counts[what]);
        }
        due("the last cell", x.cell(15, 0), 0);
        due("no cell behind it", x.cell(16, 0), NONE);
        due("loss", x.weak(0, 1), 10);
        due("no fault", x.fault(0), 0);
        due("no place", x.fault(1), NONE);
        due("nothing to undo", x.undo(), NONE);
        due("no image", x.back(), NONE);
        due("known by none that is there", x.known(0), true);
        due("not known by one", x.known(1), false);
        due("no tales", x.tales(), 0);
        due("fits by the shores as they are", x.fits(), 1);
        due("nobody", x.first(0), -2);
    }

    // "an empty TAPE"
    private static void promise01NewObjectHasAnEmptyTape() {
        PondReader x = new PondReader();
        due("text(1)", x.text(1), -2);
        due("the first feed", blanks(x), 20);
        PondReader y = new PondReader();
        due("another object has a tape of its own", y.text(1), -2);
        due("text(0)", new PondReader().text(0), 0);
    }

    // "Twenty bytes come behind the TAPE, four of each number, the highest first"
    private static void promise02EachByteHasItsPlace() {
        for (int place = 0; place < 20; place++) {
            int[] n = {0x20202020, 0x20202020, 0x20202020, 0x20202020, 0x20202020};
            n[place / 4] |= 0x80 << 24 - 8 * (place % 4);
            PondReader x = new PondReader();
            due("feed", x.feed(n[0], n[1], n[2], n[3], n[4]), 20);
            due("text(20)", x.text(20), NONE);
            due("a byte that is no token at " + place, x.fault(0) * 100 + x.fault(1), 100 + place);
        }
        PondReader x = new PondReader();
        x.feed(0x20202020, 0x20202020, 0x20202020, 0x20202020, 0x20706f6e);
        due("behind the tape", x.feed(0x64203720, 0x353b2020, 0x20202020, 0x20202020, 0x20202020), 40);
        due("text(40)", x.text(40), 1);
        due("as told over two feeds", x.count(0) * 10 + x.count(1), 75);
    }

    // "how many it has; NONE, and none come, if it would have more than 800"
    private static void promise02EightHundredBytesAreTheMost() {
        PondReader x = new PondReader();
        for (int i = 1; i <= 39; i++) {
            due("feed " + i, blanks(x), 20 * i);
        }
        due("feed 40", x.feed(0x20202020, 0x20202020, 0x20207468, 0x69636b20, 0x313b2020), 800);
        due("feed 41", x.feed(0, 0, 0, 0, 0), NONE);
        due("feed 42", blanks(x), NONE);
        due("text(801)", x.text(801), -2);
        due("none of the refused ones came", x.text(800), 1);
        due("room again behind text()", blanks(x), 20);
    }

    // Refused bytes come neither in place of the first ones nor behind the last one.
    private static void promise02RefusedBytesChangeNothing() {
        PondReader x = new PondReader();
        x.feed(0x706f6e64, 0x20362032, 0x3b202020, 0x20202020, 0x20202020);
        blanks(x, 39);
        due("refused", x.feed(0x78787878, 0x78787878, 0x78787878, 0x78787878, 0x78787878), NONE);
        due("text(800)", x.text(800), 1);
        due("as told", x.count(0) * 10 + x.count(1), 62);
    }

    // "The TAPE's first n bytes (it is empty then) are the TEXT"
    private static void promise03FirstBytesAlone() {
        PondReader x = new PondReader();
        x.feed(0x706f6e64, 0x20332032, 0x3b585858, 0x58585858, 0x58585858);
        due("text(9), bad bytes behind", x.text(9), 1);
        due("empty then", x.text(1), -2);
        due("feed", x.feed(0x706f6e64, 0x20332032, 0x3b585858, 0x58585858, 0x58585858), 20);
        due("text(8), a sign too few", x.text(8), NONE);
        due("its place is n, not the tape's length", x.fault(1), 8);
        x.feed(0x6c6f7373, 0x2031323b, 0x20202020, 0x20202020, 0x20202020);
        due("n within a number", x.text(6), NONE);
        due("its place", x.fault(1), 6);
        x.feed(0x6c6f7373, 0x2031323b, 0x20202020, 0x20202020, 0x20202020);
        due("n within a word", x.text(3), NONE);
        due("a word that is none of a line's", x.fault(0) * 10 + x.fault(1), 10);
    }

    // "The TAPE's first n bytes (it is empty then)", n 0 and n all of it
    private static void promise03NoneAndAllOfTheTape() {
        PondReader x = Tape.reader("pond 1 2;kind k 1;");
        blanks(x, 3);
        due("text(0)", x.text(0), 0);
        due("it is empty then, too", x.text(1), -2);
        due("a text without lines", x.count(0) * 100 + x.count(1) * 10 + x.count(2), 440);
        due("text(0) of an empty tape", x.text(0), 0);
        x.feed(0x706f6e64, 0x20372031, 0x3b787878, 0x78787878, 0x78787878);
        due("text(0), though there are bytes", x.text(0), 0);
        due("none of them is read", x.count(0) * 10 + x.fault(0), 40);
        due("blanks(x, 40)", blanks(x, 40), 800);
        due("text(800) of blanks", x.text(800), 0);
        due("it is empty then", blanks(x), 20);
    }

    // "how many LINES"
    private static void promise03LinesAreCounted() {
        due("none", Tape.tell(new PondReader(), " \n "), 0);
        due("one", Tape.tell(new PondReader(), "law 1;"), 1);
        due("two without a blank", Tape.tell(new PondReader(), "law 1;may m;"), 2);
        due("a may with shores is one", Tape.tell(new PondReader(), "may m shore 0 0 shore 1 1;\n"), 1);
        due("many", Tape.tell(new PondReader(), rows("land X Y;", 20) + "law 1;"), 23);
    }

    // "(no NOTES, all KNOWN, no IMAGE, nothing to undo then)"
    private static void promise03RightTextBeginsAnew() {
        String text = "pond 3 1;kind k 9;cork c 0 0;reed 1 0;reed 2 0;drop k 0 0 0;";
        PondReader x = Tape.reader(text);
        x.note(0, 0, 1);
        x.note(0, 0, 9);
        x.known(1);
        x.fall(0, 2, 2);
        x.cut(1);
        x.keep();
        due("text", Tape.tell(x, text), 6);
        due("no notes", x.count(9), 0);
        due("strike(0)", x.strike(0), NONE);
        due("no image", x.back(), NONE);
        due("nothing to undo", x.count(11), 0);
        due("undo()", x.undo(), NONE);
        due("drops as told", x.count(5), 1);
        due("reeds as told", x.count(12), 2);
        x.note(0, 0, 9);
        x.note(0, 0, 8);
        due("all known: count(10)", x.count(10), 2);
        due("all known: fits()", x.fits(), 0);
        due("fault(0)", x.fault(0), 0);
        due("text(0) does so, too", x.text(0), 0);
        due("no notes", x.count(9) + x.count(10), 0);
    }

    // All of the TEXT ahead is gone: each of its LINES, though the next TEXT has less or more of them.
    private static void promise03NothingOfTheTextAhead() {
        String full = "pond 8 6;kind a 1 2 3 4 5 6 odds 9;kind b 1 2;cork a 5 0;cork b 6 0;skater a 5 0;skater b 6 0;"
            + "drop a 5 0 9;drop a 6 0 9;land 0 0;land 1 0;reed 2 0;shore 3 0;shore 4 0;may a shore 5 0 shore 6 0;"
            + "may b shore 5 0;loss 1;thick 2;sent 3;law 1+1;";
        String next = "kind a 9;cork a 1 0;skater a 0 1;land 3 0;land 0 2;may a;drop a 0 0 0;shore 0 0;loss 5;thick 6;"
            + "sent 99;law way*2;pond 5 5;";
        String right = "pond 5 5;" + next.replace("pond 5 5;", "");
        PondReader x = Tape.reader(full);
        due("a fault between", Tape.tell(x, next), NONE);
        due("pond behind land", x.fault(0), 4);
        for (int time = 0; time < 2; time++) {
            due("text", Tape.tell(x, right), 13);
            int[] counts = {5, 5, 1, 1, 1, 1, 1, 1, 3, 0, 0, 0, 0};
            for (int what = 0; what < counts.length; what++) {
                due("count(" + what + ")", x.count(what), counts[what]);
            }
            due("rises", looked(x, 0, 0), 1);
            due("odds", looked(x, 0, 1), 1);
            due("no other kind", looked(x, 1, 0), -101);
            due("land", x.cell(0, 0) + x.cell(1, 0) + x.cell(2, 0) * 10 + x.cell(3, 0) * 100 + x.cell(10, 0), 202);
            due("shores", x.cell(0, 1) * 10 + x.cell(3, 1) + x.cell(4, 1), 10);
            due("corks", x.cell(1, 2) * 10 + x.cell(0, 2) + x.cell(4, 2), -2);
            due("drops", x.drop(0, 1) * 10 + x.drop(0, 2), 0);
            due("the cork", x.shows(0, 1), 8 + 7);
            due("the skater", x.where(0, 0), 5);
            due("the law", x.law(0, 1), 2);
            due("loss", x.weak(0, 1), 5);
            due("the may has no shores", fitsOf(x, 0, 1, 8), 1);
            due("as they are", fitsOf(x, 0, 1, 15), 2);
            due("text between", Tape.tell(x, full), 20);
            due("and once more, so that both that are held have been full", Tape.tell(x, full), 20);
        }
        x.text(0);
        due("no law", x.law(0, 0), Long.MIN_VALUE);
        due("no land", x.far(0, 1), 1);
        due("no corks", x.shows(0, 0), Integer.MIN_VALUE);
        due("no skaters", x.where(0, 0), NONE);
    }

    // What was worked out of a larger or smaller pond ahead is gone, too: all is as in a new object.
    private static void promise03PondsOfAllSizes() {
        String lines = "kind k 90 -80 7;shore 0 0;cork c 0 0;skater s 0 0;drop k 0 0 3;";
        String[] ponds = {
            "pond 8 6;reed 1 0;shore 7 5;land 3 3;", "pond 1 1;", "pond 8 1;shore 7 0;", "pond 1 6;reed 0 2;",
            "pond 3 5;land 1 0;land 0 1;", "pond 8 6;", "pond 2 2;shore 1 1;", "", "pond 7 6;reed 6 5;loss 3;"
        };
        PondReader x = new PondReader();
        for (String pond : ponds) {
            Tape.tell(x, pond + lines);
            PondReader fresh = Tape.reader(pond + lines);
            int cells = fresh.count(0) * fresh.count(1);
            for (int cell = -1; cell <= cells; cell++) {
                String where = " " + cell + " of '" + pond + "'";
                for (int to = -1; to <= cells; to++) {
                    due("far to " + to + where, x.far(cell, to), fresh.far(cell, to));
                    due("weak to " + to + where, x.weak(cell, to), fresh.weak(cell, to));
                }
                for (int step = 0; step < 200; step++) {
                    due("rise in step " + step + where, x.rise(cell, step), fresh.rise(cell, step));
                }
                due("reaches" + where, x.reaches(0, cell), fresh.reaches(0, cell));
            }
        }
    }

    private static int fitsOf(PondReader x, int cork, int step, int rise) {
        int number = x.note(cork, step, rise);
        int bits = x.fits();
        x.strike(number);
        return bits;
    }

    // A LINE that comes once may come once in each TEXT; a law is read as if there had been none ahead.
    private static void promise03EachTextForItself() {
        PondReader x = new PondReader();
        String text = "pond 2 2;loss 1;thick 1;sent 1;law 1+2*(3);kind k 1;cork k 0 0;skater k 0 0;may k;";
        for (int time = 0; time < 3; time++) {
            due("text", Tape.tell(x, text), 9);
            due("knots", x.count(8), 5);
            for (String bad : new String[] {"law ((((((((", "law 1 or 1 and 1=1+1*", "law " + "1+".repeat(32), "loss 1;thick 1;"
                + "sent 1;pond 1 1;x", "reed 0 0;x"}) {
                due(bad, Tape.tell(x, bad), NONE);
            }
        }
        due("no bracket is open still", Tape.tell(x, "law ((((((((1))))))));"), 1);
        due("no knot is counted still", Tape.tell(x, "law 1" + "+1".repeat(31) + ";"), 1);
        due("knots", x.count(8), 63);
        due("no sign waits still", Tape.tell(x, "skater s 0 0;law 7;"), 2);
        due("law(0, 0)", x.law(0, 0), 7);
        due("a word begins the next law", Tape.tell(x, "law or 1;"), NONE);
    }

    // "NONE with a FAULT, all stays"
    private static void promise03FaultLeavesAll() {
        PondReader x = Tape.reader("pond 3 2;kind k 9 odds 7;cork c 0 0;reed 1 0;reed 2 0;drop k 0 0 0;shore 0 1;"
            + "may m shore 2 1;skater s 1 1;law rise+1;loss 1;thick 2;sent 80;");
        x.note(0, 0, 16);
        x.note(0, 0, 1);
        x.known(1);
        x.keep();
        x.fall(0, 2, 2);
        x.cut(1);
        String bad = "pond 1 1;kind a 1;kind b 1 odds 9;cork d 0 0;cork e 0 0;skater z 0 0;drop a 0 0 0;shore 0 0;"
            + "may z;law 2;loss 3;thick 3;sent 3;reed 0 0;note;";
        for (int time = 0; time < 3; time++) {
            due("text", Tape.tell(x, bad), NONE);
            int[] counts = {3, 2, 1, 1, 1, 2, 1, 1, 3, 2, 1, 2, 1};
            for (int what = 0; what < counts.length; what++) {
                due("count(" + what + ")", x.count(what), counts[what]);
            }
            due("kind", x.named(0, Tape.letters("k")) * 10 + x.named(0, Tape.letters("a")), NONE);
            due("odds", looked(x, 0, 1), 7);
            due("loss and thick", x.weak(0, 2), 4);
            due("sent", x.rise(0, 2), 5);
            due("law", x.law(0, 0), 1);
            due("fits()", x.fits(), 0);
            due("cell(3, 1)", x.cell(3, 1), 1);
        }
        due("undo()", x.undo(), 1);
        due("the image is kept", x.back(), 1);
        due("and its reeds", x.count(12), 2);
        due("a right text behind", Tape.tell(x, "kind k 1;"), 1);
        due("nothing of the wrong ones is there", x.count(3) + x.count(4) + x.count(5) + x.count(6) + x.count(7)
            + x.count(8) + x.count(12), 0);
        due("nor their loss", x.weak(0, 1), 10);
    }

    // The TAPE is empty behind a FAULT: "(it is empty then)"
    private static void promise03FaultEmptiesTheTape() {
        PondReader x = new PondReader();
        x.feed(0x78203b20, 0x20202020, 0x20202020, 0x20202020, 0x20202020);
        due("text(3)", x.text(3), NONE);
        due("text(1)", x.text(1), -2);
        due("feed", blanks(x), 20);
    }

    // "-2, and the TAPE stays: there are not so many, n is below 0"
    private static void promise03WrongNLeavesTheTape() {
        PondReader x = Tape.reader("pond 2 2;kind k 1;cork c 0 0;");
        x.note(0, 0, 0);
        x.fall(0, 0, 0);
        x.feed(0x706f6e64, 0x20372031, 0x3b202020, 0x20202020, 0x20202020);
        for (int n : new int[] {21, 22, 40, 800, 801, Integer.MAX_VALUE, -1, -2, -20, Integer.MIN_VALUE}) {
            due("text(" + n + ")", x.text(n), -2);
        }
        due("the text stays", x.count(0) * 100 + x.count(9) * 10 + x.count(5), 211);
        due("text(20)", x.text(20), 1);
        due("the tape has stayed", x.count(0) * 10 + x.count(1), 71);
        for (int n : new int[] {1, Integer.MAX_VALUE, -1}) {
            due("text(" + n + ") of an empty tape", x.text(n), -2);
        }
    }

    // "Of the latest text() that was not -2, what 0: its FAULT (0), 1: its place (NONE without)."
    private static void promise04LatestTextThatWasRead() {
        PondReader x = new PondReader();
        due("at first", x.fault(0), 0);
        due("at first", x.fault(1), NONE);
        due("-2 at first", x.text(-1), -2);
        due("fault(0)", x.fault(0), 0);
        due("fault(1)", x.fault(1), NONE);
        Tape.tell(x, "loss 51;");
        due("fault(0)", x.fault(0), 2);
        due("fault(1)", x.fault(1), 5);
        due("asked again", x.fault(0) * 10 + x.fault(1), 25);
        due("-2", x.text(1), -2);
        due("-2", x.text(-1), -2);
        due("fault(0) behind -2", x.fault(0), 2);
        due("fault(1) behind -2", x.fault(1), 5);
        Tape.tell(x, "thick 1;thick 1;");
        due("another fault", x.fault(0) * 10 + x.fault(1), 38);
        Tape.tell(x, "thick 1;");
        due("fault(0) without", x.fault(0), 0);
        due("fault(1) without", x.fault(1), NONE);
        Tape.tell(x, ";");
        due("at place 0", x.fault(0) * 10 + x.fault(1), 10);
        x.text(0);
        due("text(0) has none", x.fault(0), 0);
        due("text(0) has none", x.fault(1), NONE);
    }

    // "NONE for another what."
    private static void promise04AnotherWhat() {
        PondReader x = new PondReader();
        Tape.tell(x, "loss 51;");
        for (int what : new int[] {-1, 2, 3, Integer.MIN_VALUE, Integer.MAX_VALUE}) {
            due("fault(" + what + ")", x.fault(what), NONE);
        }
    }

    // "Blanks 10, 32." and "1 a TOKEN that is none": each byte ahead of a line and within one.
    private static void promise04Fault1EachByte() {
        for (int b = 0; b < 256; b++) {
            boolean blank = b == 10 || b == 32;
            boolean digit = b >= '0' && b <= '9';
            boolean letter = b >= 'a' && b <= 'z';
            fault((char) b + "loss 1;", blank ? 0 : 1, blank ? NONE : 0);
            fault("loss 1;" + (char) b, blank ? 0 : 1, blank ? NONE : 7);
            if (digit) {
                fault("loss" + (char) b + "1;", b < '5' ? 0 : 2, b < '5' ? NONE : 4);
            } else {
                fault("loss" + (char) b + "1;", blank ? 0 : 1, blank ? NONE : letter ? 0 : 4);
            }
        }
    }

    // "W: one of 1 .. 6 letters", "a word of more than 6 letters, too"
    private static void promise04Fault1WordOfSevenLetters() {
        for (String line : new String[] {"kind # 1;", "cork # 0 0;", "skater # 0 0;", "may #;"}) {
            int place = line.indexOf('#');
            right(line.replace("#", "z"));
            right(line.replace("#", "abcdef"));
            fault(line.replace("#", "abcdefg"), 1, place);
            fault(line.replace("#", "abcdefghijklmnopqrstuvwxyz"), 1, place);
            fault(line.replace("#", "ponding"), 1, place);
            fault(line.replace("#", "Z"), 1, place);
            fault(line.replace("#", ""), 1, place + (line.startsWith("may") ? 0 : 1));
        }
        fault("kind abcdef 1;drop abcdefg 0 0 0;", 1, 19);
        fault("skaters a 0 0;", 1, 0);
        fault("law risesss;", 1, 4);
    }

    // "W: ..., none of those of the language"
    private static void promise04Fault1WordOfTheLanguage() {
        for (String word : LANGUAGE) {
            fault("kind " + word + " 1;", 1, 5);
            fault("cork " + word + " 0 0;", 1, 5);
            fault("skater " + word + " 0 0;", 1, 7);
            fault("drop " + word + " 0 0 0;", 1, 5);
            fault("may " + word + ";", 1, 4);
            if (word.length() < 6) {
                right("kind " + word + "x 1;");
            }
            String less = word.equals("land") ? "lan" : word.substring(1);
            right("kind " + less + " 1;cork " + less + " 0 0;skater " + less + " 0 0;may " + less + ";");
        }
    }

    // "1 a TOKEN that ... can't stand there": what begins no LINE
    private static void promise04Fault1NoLineBeginsSo() {
        for (String word : new String[] {"odds", "or", "and", "not", "rise", "here", "reeds", "way", "step", "x", "1",
            ";", "(", "-", "=", "<>"}) {
            fault(word + " 1;", 1, 0);
            fault("loss 1; " + word + " 1;", 1, 8);
        }
    }

    // "(the length, if more must come)": each LINE ends behind each of its TOKENS.
    private static void promise04Fault1TheLengthIfMoreMustCome() {
        for (String[] line : LINES) {
            right(line[0] + line[1] + ";");
            for (int end = 1; end <= line[1].length(); end++) {
                if (end == line[1].length() || line[1].charAt(end) == ' ') {
                    String text = line[0] + line[1].substring(0, end);
                    fault(text, 1, text.length());
                    fault(text + " \n ", 1, text.length() + 3);
                }
            }
        }
        right("");
        right("\n");
    }

    // "1 a TOKEN that ... can't stand there": one of each sort in place of each TOKEN
    private static void promise04Fault1WrongTokenInEachPlace() {
        String[] numbersOnly = {"pond # 2;", "pond 3 #;", "land # 0;", "land 0 #;", "reed # 0;", "reed 0 #;", "shore # 0;",
            "shore 0 #;", "kind k #;", "kind k - #;", "kind k 1 odds #;", "cork c # 0;", "cork c 0 #;", "skater s # 0;",
            "skater s 0 #;", "kind k 1;drop k # 0 0;", "kind k 1;drop k 0 # 0;", "kind k 1;drop k 0 0 #;", "loss #;",
            "thick #;", "sent #;", "may m shore # 0;", "may m shore 0 #;"};
        for (String text : numbersOnly) {
            int place = text.indexOf('#');
            right(text.replace("#", "1"));
            for (String wrong : new String[] {"x", ";", "(", "+", "odds", "shore", "!", "="}) {
                fault(text.replace("#", wrong), 1, place);
            }
        }
        for (String text : numbersOnly) {
            if (!text.equals("kind k #;")) {
                fault(text.replace("#", "- 1"), 1, text.indexOf('#'));
            }
        }
        for (String text : new String[] {"pond 3 2#", "land 0 0#", "reed 0 0#", "shore 0 0#", "kind k 1 odds 1#",
            "cork c 0 0#", "skater s 0 0#", "kind k 1;drop k 0 0 0#", "loss 1#", "thick 1#", "sent 1#",
            "may m shore 0 0#", "may m#", "law 1#"}) {
            int place = text.indexOf('#');
            for (String wrong : new String[] {" 1;", " x;", "(;", " odds 1;", " kind a 1;"}) {
                fault(text.replace("#", wrong), 1, place + (wrong.startsWith(" ") ? 1 : 0));
            }
        }
    }

    // "2 too much (at it): a number beyond what is said": the last that may be, and the first that may not
    private static void promise04Fault2NumberBeyond() {
        bounds("pond # 1;", 1, 8);
        bounds("pond 1 #;", 1, 6);
        bounds("land # 0;", 0, 3);
        bounds("land 0 #;", 0, 3);
        for (String line : new String[] {"land # 0;", "reed # 0;", "shore # 0;", "cork c # 0;", "skater s # 0;",
            "drop k # 0 0;", "may m shore # 0;"}) {
            String ahead = "kind k 1;";
            bounds(ahead + "pond 8 6;" + line, 0, 7);
            bounds(ahead + "pond 8 6;" + line.replace("# 0", "0 #"), 0, 5);
            bounds(ahead + "pond 1 6;" + line, 0, 0);
            bounds(ahead + "pond 8 1;" + line.replace("# 0", "0 #"), 0, 0);
            bounds(ahead + "pond 2 5;" + line, 0, 1);
            bounds(ahead + "pond 2 5;" + line.replace("# 0", "0 #"), 0, 4);
        }
        bounds("kind k #;", 0, 99);
        bounds("kind k -#;", 0, 99);
        bounds("kind k 1 1 1 1 1 -#;", 0, 99);
        bounds("kind k 1 odds #;", 1, 99);
        bounds("kind k 1;drop k 0 0 #;", 0, 99);
        bounds("loss #;", 0, 50);
        bounds("thick #;", 0, 99);
        bounds("sent #;", 0, 99);
        bounds("law #;", 0, 9999);
        bounds("law 1+(#);", 0, 9999);
    }

    private static void bounds(String text, int least, int most) {
        int place = text.indexOf('#');
        right(text.replace("#", "" + least));
        right(text.replace("#", "" + most));
        right(text.replace("#", "0000000000000000000000" + most));
        for (String more : new String[] {"" + (most + 1), "00" + (most + 1), "10000", "2147483648", "4294967296",
            "4294967297", "18446744073709551617", "99999999999999999999999999999999999999"}) {
            fault(text.replace("#", more), 2, place);
        }
        if (least > 0) {
            fault(text.replace("#", "0"), 2, place);
            fault(text.replace("#", "000"), 2, place);
        }
    }

    // A number's digits may fill the whole TAPE.
    private static void promise04Fault2NumberAsLongAsTheTape() {
        right("loss " + "0".repeat(793) + "5;");
        fault("loss " + "0".repeat(792) + "51;", 2, 5);
        fault("loss 1" + "0".repeat(794), 2, 5);
        fault("law " + "9".repeat(795) + ";", 2, 4);
    }

    private static String rows(String line, int n) {
        StringBuilder text = new StringBuilder("pond 8 6;kind k 1;");
        for (int i = 0; i < n; i++) {
            text.append(line.replace("#", "" + (char) ('a' + i)).replace("X", "" + i % 8).replace("Y", "" + i / 8));
        }
        return text.toString();
    }

    // "a 21st land and so on (at the word of the LINE)", whatever its LINE goes on with
    private static void promise04Fault2OneLineTooMany() {
        String[] lines = {"land X Y;", "reed X Y;", "shore X Y;", "cork # X Y;", "skater # X Y;", "drop k X Y 0;",
            "may # shore X Y;"};
        int[] most = {20, 20, 3, 6, 3, 8, 3};
        for (int i = 0; i < lines.length; i++) {
            String full = rows(lines[i], most[i]);
            right(full);
            String word = lines[i].substring(0, lines[i].indexOf(' '));
            fault(rows(lines[i], most[i] + 1), 2, full.length());
            fault(full + word + " 9 9;", 2, full.length());
            fault(full + " " + word, 2, full.length() + 1);
            right(full + "loss 1;law 1;");
        }
        right("kind a 1;kind b 1;kind c 1;kind d 1;");
        fault("kind a 1;kind b 1;kind c 1;kind d 1;kind e 1;", 2, 36);
        fault("kind a 1;kind b 1;kind c 1;kind d 1;kind a 1;", 2, 36);
        fault("kind a 1;kind b 1;kind c 1;kind d 1;kind", 2, 36);
        PondReader x = Tape.reader(rows("land X Y;", 20));
        due("cells of land", x.cell(19, 0) * 10 + x.cell(20, 0), 20);
    }

    // Reeds and land have 20 each; shores of a MAY are none of the three shores.
    private static void promise04EachSortIsCountedForItself() {
        StringBuilder text = new StringBuilder("pond 8 6;");
        for (int i = 0; i < 20; i++) {
            text.append("land " + i % 8 + " " + i / 8 + ";reed " + i % 8 + " " + (i / 8 + 3) + ";");
        }
        text.append("shore 0 5;shore 1 5;shore 2 5;may a shore 3 5 shore 4 5 shore 5 5;may b shore 3 5;");
        due("text", Tape.tell(new PondReader(), text.toString()), 46);
        right("kind a 1;cork a 0 0;skater a 0 0;may a;cork b 0 0;skater b 0 0;may b;kind b 1;");
    }

    // "a fourth shore of a MAY at shore"
    private static void promise04Fault2FourthShoreOfAMay() {
        right("may m shore 0 0 shore 1 0 shore 2 0;");
        fault("may m shore 0 0 shore 1 0 shore 2 0 shore 3 0;", 2, 36);
        fault("may m shore 0 0 shore 1 0 shore 2 0 shore 0 0;", 2, 36);
        fault("may m shore 0 0 shore 1 0 shore 2 0 shore", 2, 36);
        right("may m shore 0 0 shore 1 0 shore 2 0;may n shore 0 0 shore 1 0 shore 2 0;may o;");
        fault("may a;may b;may m shore 0 0 shore 1 0 shore 2 0 shore 3 0;", 2, 48);
        right("shore 0 0;shore 1 0;shore 2 0;may m shore 3 0;");
    }

    // "a seventh RISE (at its first TOKEN)"
    private static void promise04Fault2SeventhRise() {
        right("kind k 1 2 3 4 5 6;");
        right("kind k -1-2-3-4-5-6;");
        right("kind k 1 2 3 4 5 6 odds 2;");
        fault("kind k 1 2 3 4 5 6 7;", 2, 19);
        fault("kind k 1 2 3 4 5 6 -7;", 2, 19);
        fault("kind k 1 2 3 4 5 6 - 7;", 2, 19);
        fault("kind k -1-2-3-4-5-6-7;", 2, 19);
        fault("kind k 1 2 3 4 5 6 -;", 2, 19);
        fault("kind k 1 2 3 4 5 6 100;", 2, 19);
        fault("kind k 1 2 3 4 5 100 7;", 2, 17);
        fault("kind k 1 2 3 4 5 6 x;", 1, 19);
        due("six", looked(Tape.reader("kind k 1 2 3 4 5 6;"), 0, 0), 6);
        due("one", looked(Tape.reader("kind k 0;"), 0, 0), 1);
    }

    // "a ninth '(' open"
    private static void promise04Fault2NinthBracket() {
        right("law ((((((((1))))))));");
        fault("law (((((((((1)))))))));", 2, 12);
        fault("law (((((((((", 2, 12);
        right("law ((((((((1))))))))+((((((((1))))))));");
        right("law (((((((1)+(2)+(3))))))+(((1))));");
        fault("law (((((((1+(2+(", 2, 16);
        fault("law not(not(not(not(not(not(not(not(not(1)))))))));", 2, 39);
        right("law not(not(not(not(not(not(not(not(1))))))));");
    }

    // "a 65th KNOT of E (N, NAMES, signs, not, and, or: one each)"
    private static void promise04Fault2SixtyFifthKnot() {
        String sixtyThree = "law 1" + "+1".repeat(31);
        String sixtyFour = sixtyThree.replace("law", "law not");
        due("63", Tape.reader(sixtyThree + ";").count(8), 63);
        due("64", Tape.reader(sixtyFour + ";").count(8), 64);
        for (String sign : new String[] {"+", "-", "*", "/", "<", "<=", "=", "<>", ">=", ">", " and ", " or "}) {
            int blank = sign.startsWith(" ") ? 1 : 0;
            fault(sixtyFour + sign + "1;", 2, sixtyFour.length() + blank);
            fault(sixtyThree + sign + "1;", 2, sixtyThree.length() + sign.length());
            fault(sixtyThree + sign + "rise;", 2, sixtyThree.length() + sign.length());
            due("each sign is one", Tape.reader("law 1" + sign + "1;").count(8), 3);
        }
        for (String leaf : new String[] {"rise", "here", "reeds", "way", "step", "0", "9999"}) {
            due("each leaf is one", Tape.reader("law " + leaf + ";").count(8), 1);
            fault(sixtyThree + "+" + leaf + ";", 2, sixtyThree.length() + 1);
        }
        fault(sixtyThree + " and not 1;", 2, sixtyThree.length() + 5);
        right("law " + "not ".repeat(63) + "1;");
        fault("law " + "not ".repeat(64) + "1;", 2, 4 + 4 * 64);
        fault("law " + "not ".repeat(65) + "1;", 2, 4 + 4 * 64);
        due("brackets are none", Tape.reader("law ((1))+(2);").count(8), 3);
        right(sixtyFour.replace("1+1", "((1)+(1))") + ";");
        due("a law of 64 is worked out", Tape.reader("skater s 0 0;" + sixtyThree + ";").law(0, 0), 32);
        due("so is a row of not", Tape.reader("skater s 0 0;law " + "not ".repeat(63) + "1;").law(0, 0), 0);
        due("and what all waits", Tape.reader("skater s 0 0;law " + "1 or 1 and 1=1+1*(".repeat(5) + "1 or 1 and 1=1"
            + ")))));").law(0, 0), 1);
    }

    // "3 told already: a name of its kind (at W)"
    private static void promise04Fault3NameOfItsKind() {
        fault("kind k 1;kind k 1;", 3, 14);
        fault("kind k 1;kind j 1;kind k;", 3, 23);
        fault("cork k 0 0;cork k 9 9;", 3, 16);
        fault("skater k 0 0;skater k 1 1;", 3, 20);
        fault("may k;may k;", 3, 10);
        right("kind k 1;cork k 0 0;skater k 0 0;may k;");
        right("kind abcdef 1;kind abcdeg 1;kind abcde 1;kind bcdef 1;");
        right("cork a 0 0;cork aa 0 0;cork aaa 0 0;cork aaaa 0 0;cork aaaaa 0 0;cork aaaaaa 0 0;");
        fault("cork aaaaaa 0 0;cork aaaaaa 0 0;", 3, 21);
    }

    // "3 told already: ... pond, loss, thick, sent, law (at the word)", whatever the LINE goes on with
    private static void promise04Fault3LineThatComesOnce() {
        String[] lines = {"pond 2 2;", "loss 10;", "thick 30;", "sent 50;", "law 1;"};
        for (String line : lines) {
            String word = line.substring(0, line.indexOf(' '));
            right(line);
            fault(line + line, 3, line.length());
            fault(line + word + " x;", 3, line.length());
            fault(line + word + " 10000;", 3, line.length());
            fault(line + "\n" + word, 3, line.length() + 1);
            for (String other : lines) {
                if (!other.equals(line)) {
                    right(line + other);
                    fault(line + other + line, 3, line.length() + other.length());
                }
            }
        }
        fault("loss 0;loss 0;", 3, 7);
    }

    // "4 a KIND that isn't told ahead (at W)"
    private static void promise04Fault4KindNotToldAhead() {
        fault("drop k 0 0 0;", 4, 5);
        fault("drop k 0 0 0;kind k 1;", 4, 5);
        fault("kind j 1;cork k 0 0;skater k 0 0;may k;drop k 0 0 0;", 4, 44);
        fault("kind kk 1;drop k 0 0 0;", 4, 15);
        fault("drop k 9 9 999;", 4, 5);
        fault("drop k", 4, 5);
        right("kind k 1;drop k 0 0 0;");
        fault("drop 1 0 0 0;", 1, 5);
    }

    // "4 ... pond behind a LINE of land, reed, shore, cork, skater, drop or may (at the word)"
    private static void promise04Fault4PondBehind() {
        for (String line : CELL_LINES) {
            String ahead = "kind k 1;" + line.replace("#", "a");
            fault(ahead + "pond 4 4;", 4, ahead.length());
            fault(ahead + "pond 0 0;", 4, ahead.length());
            fault(ahead + "pond", 4, ahead.length());
            right("pond 4 4;" + ahead);
        }
        fault("may m;pond 1 1;", 4, 6);
        right("kind k 1;loss 1;thick 1;sent 1;law 1;pond 1 1;");
    }

    // "no CELL is told twice as one of these, and none as land where .. is told ahead; none of these on land told ahead"
    private static void promise04Fault5CellThatMayNotBe() {
        for (int one = 0; one < CELL_LINES.length; one++) {
            for (int other = 0; other < CELL_LINES.length; other++) {
                String text = "kind k 1;" + CELL_LINES[one].replace("#", "a");
                String line = CELL_LINES[other].replace("#", "b");
                boolean land = one == 0 || other == 0;
                boolean twice = one == other && one <= 2;
                int place = text.length() + line.indexOf(" 0 0") + 3;
                fault(text + line, land || twice ? 5 : 0, land || twice ? place : NONE);
                right(text + line.replace("0 0", "0 1"));
                right(text + line.replace("0 0", "1 0"));
                fault(text + line.substring(0, line.indexOf(" 0 0") + 4), land || twice ? 5 : 1,
                    land || twice ? place : place + 1);
            }
        }
    }

    // "(at most 3 each, none twice in one MAY)" and "none as land where .. a shore (of a MAY, too)"
    private static void promise04Fault5ShoresOfAMay() {
        fault("may m shore 0 0 shore 0 0;", 5, 24);
        fault("may m shore 0 0 shore 1 0 shore 0 0;", 5, 34);
        right("may m shore 0 0;may n shore 0 0;shore 0 0;");
        fault("may m shore 0 0 shore 1 1;land 1 1;", 5, 33);
        fault("may m;may n;may o shore 0 0 shore 1 1 shore 2 2;land 2 2;", 5, 55);
        fault("land 2 2;may m shore 0 0 shore 1 1 shore 2 2;", 5, 43);
    }

    // All that is told ahead keeps land away, not the first or the last of it alone.
    private static void promise04Fault5EachThatIsToldAhead() {
        String[] lines = {"reed X Y;", "shore X Y;", "cork # X Y;", "skater # X Y;", "drop k X Y 0;", "may # shore X Y;"};
        int[] most = {20, 3, 6, 3, 8, 3};
        for (int i = 0; i < lines.length; i++) {
            String full = rows(lines[i], most[i]);
            for (int cell = 0; cell <= most[i]; cell++) {
                String text = full + "land " + cell % 8 + " " + cell / 8 + ";";
                fault(text, cell < most[i] ? 5 : 0, cell < most[i] ? text.length() - 2 : NONE);
            }
        }
        String land = rows("land X Y;", 20);
        for (int cell = 0; cell <= 20; cell++) {
            String text = land + "reed " + cell % 8 + " " + cell / 8 + ";";
            fault(text, cell < 20 ? 5 : 0, cell < 20 ? text.length() - 2 : NONE);
        }
    }

    // "FAULTS, the first along the text (of one place the least)"
    private static void promise04FirstAlongTheText() {
        fault("kind k 1;drop j 0 0 0;x", 4, 14);
        fault("land 0 0;land 0 0 x", 5, 16);
        fault("loss 51 x", 2, 5);
        fault("cork a 9 9;cork a", 2, 7);
        fault("cork a 0 0;cork a 9 9;", 3, 16);
        fault("land 0 9;pond", 2, 7);
        fault("loss 1;loss 99;!", 3, 7);
        fault("kind k 1;drop k 0 9 100;", 2, 18);
        fault("land 0 0;kind k 1;drop k 0 0 100;", 5, 27);
        fault("law 10000+;", 2, 4);
        fault("law (((((((((+", 2, 12);
    }

    // "(of one place the least)": two FAULTS in one place
    private static void promise04LeastOfOnePlace() {
        fault("pond 2 2;land 0 0;pond 2 2;", 3, 18);
        fault("pond 2 2;may m;pond 9 9;", 3, 15);
        String full = "law 1" + "+1".repeat(31) + "+";
        fault(full + "+", 1, full.length());
        fault(full + ";", 1, full.length());
        fault(full + "not 1;", 1, full.length());
        fault(full + "x;", 1, full.length());
        fault(full + "(", 1, full.length() + 1);
        fault(full + "1;", 2, full.length());
        fault(full + "10000;", 2, full.length());
        String done = "law not 1" + "+1".repeat(31);
        fault(done + "not", 1, done.length());
        fault(done + " 1", 1, done.length() + 1);
        fault(done + "(", 1, done.length());
        fault(done + ")", 1, done.length());
        String compared = "law 1=1" + "+1".repeat(30) + " and";
        fault(compared + " 1;", 2, compared.length() + 1);
        String comparedTwice = "law not 1=1" + "+1".repeat(30);
        fault(comparedTwice + "=1;", 1, comparedTwice.length());
        fault(comparedTwice + "+1;", 2, comparedTwice.length());
        fault("law ((((((((1(", 1, 13);
    }

    // "A = (or > behind <) right behind < or > belongs to it."
    private static void promise04SignsOfTwo() {
        for (String sign : new String[] {"<", "<=", "=", "<>", ">=", ">"}) {
            right("law 1" + sign + "1;");
            right("law 1 " + sign + "\n1;");
            fault("law 1" + sign + " =1;", 1, 6 + sign.length());
            fault("law 1" + sign + " >1;", 1, 6 + sign.length());
            fault("law 1" + sign + "<1;", 1, 5 + sign.length());
        }
        fault("law 1=>1;", 1, 6);
        fault("law 1==1;", 1, 6);
        fault("law 1>>1;", 1, 6);
        fault("law 1<>=1;", 1, 7);
        fault("law 1<=>1;", 1, 7);
        fault("law 1>=<1;", 1, 7);
        fault("law <=1;", 1, 4);
        fault("law 1<=;", 1, 7);
        fault("law 1<=", 1, 7);
        fault("law 1<", 1, 6);
        PondReader x = new PondReader();
        x.feed(0x6c617720, 0x313c3d31, 0x3b202020, 0x20202020, 0x20202020);
        due("a sign that n cuts", x.text(6), NONE);
        due("its place is n", x.fault(0) * 10 + x.fault(1), 16);
    }

    // "E: A { or A }. A: B { and B }. B: not B | C. C: S [ .. S ]. S: T { .. T }. T: P { .. P }. P: N | NAME | '(' E ')'"
    private static void promise04GrammarOfLaw() {
        fault("law ;", 1, 4);
        fault("law or 1;", 1, 4);
        fault("law -1;", 1, 4);
        fault("law +1;", 1, 4);
        fault("law 1 not 2;", 1, 6);
        fault("law 1 rise;", 1, 6);
        fault("law rise(1);", 1, 8);
        fault("law 1(2);", 1, 5);
        fault("law (1)(2);", 1, 7);
        fault("law (1)2;", 1, 7);
        fault("law );", 1, 4);
        fault("law ();", 1, 5);
        fault("law (1;", 1, 6);
        fault("law 1);", 1, 5);
        fault("law (1));", 1, 7);
        fault("law (1+);", 1, 7);
        fault("law 1 < 2 < 3;", 1, 10);
        fault("law 1 < 2 + 3 * 4 > 3;", 1, 18);
        fault("law (1 < 2 = 3);", 1, 11);
        fault("law not 1 = 2 = 3;", 1, 14);
        right("law 1 < 2 and 2 < 3 or 3 < 4;");
        right("law (1 < 2) < (3 < 4);");
        right("law (1 < 2) = 3;");
        right("law 3 = (1 < 2);");
        fault("law 1 < not 2;", 1, 8);
        fault("law 1 + not 2;", 1, 8);
        fault("law 1 * not 2;", 1, 8);
        right("law 1 and not 2 or not not 3;");
        right("law 1 + (not 2);");
        right("law not(1)+2;");
        fault("law pond;", 1, 4);
        fault("law odds;", 1, 4);
        fault("law x;", 1, 4);
        fault("law 1 x;", 1, 6);
        fault("law 1 law 1;", 1, 6);
    }

    // "5 bits each (a is 1; the first one highest of six, 0 behind the last one)"
    private static void promise05LettersOfOneToSix() {
        PondReader x = Tape.reader("kind a 1;kind zzzzzz 1;kind az 1;kind abcdef 1;cork z 0 0;skater aa 0 0;may b;");
        due("a", x.named(0, 1 << 25), 0);
        due("zzzzzz", x.named(0, 26 << 25 | 26 << 20 | 26 << 15 | 26 << 10 | 26 << 5 | 26), 1);
        due("az", x.named(0, 1 << 25 | 26 << 20), 2);
        due("abcdef", x.named(0, 1 << 25 | 2 << 20 | 3 << 15 | 4 << 10 | 5 << 5 | 6), 3);
        due("z", x.named(1, 26 << 25), 0);
        due("aa", x.named(2, 1 << 25 | 1 << 20), 0);
        due("b", x.named(3, 2 << 25), 0);
    }

    // "NONE: there is none such."
    private static void promise05NoneSuch() {
        PondReader x = Tape.reader("kind a 1;cork b 0 0;skater c 0 0;may d;");
        int[] own = {1 << 25, 2 << 25, 3 << 25, 4 << 25};
        for (int what = 0; what < 4; what++) {
            for (int k = 0; k < 4; k++) {
                due("named(" + what + ", " + k + ")", x.named(what, own[k]), what == k ? 0 : NONE);
            }
            due("letters at the wrong end", x.named(what, what + 1), NONE);
            due("no letters", x.named(what, 0), NONE);
            due("bit 30", x.named(what, own[what] | 1 << 30), NONE);
            due("bit 31", x.named(what, own[what] | 1 << 31), NONE);
            due("a letter more", x.named(what, own[what] | 1 << 20), NONE);
            due("one behind a gap", x.named(what, own[what] | 1), NONE);
            due("-1", x.named(what, -1), NONE);
        }
        for (int what : new int[] {-1, 4, Integer.MIN_VALUE, Integer.MAX_VALUE}) {
            for (int letters : own) {
                due("named(" + what + ", " + letters + ")", x.named(what, letters), NONE);
            }
        }
        due("of a new object", new PondReader().named(0, 1 << 25), NONE);
        Tape.tell(x, "kind e 1;");
        due("one of the text ahead", x.named(0, own[0]), NONE);
        due("one of the text ahead", x.named(1, own[1]), NONE);
    }

    // "All numbered as they come"
    private static void promise05NumberedAsTheyCome() {
        PondReader x = Tape.reader("cork f 0 0;cork e 0 0;cork d 0 0;cork c 0 0;cork b 0 0;cork a 0 0;skater c 0 0;"
            + "skater b 0 0;skater a 0 0;may c;may b;may a;kind d 1;kind c 1;kind b 1;kind a 1;");
        int[] last = {3, 5, 2, 2};
        for (int what = 0; what < 4; what++) {
            for (int k = 0; k <= last[what]; k++) {
                due("named(" + what + ")", x.named(what, last[what] - k + 1 << 25), k);
            }
        }
    }

    private static int looked(PondReader x, int kind, int what) {
        try {
            return x.look(kind, what);
        } catch (IndexOutOfBoundsException e) {
            return -101;
        } catch (NoSuchElementException e) {
            return -102;
        }
    }

    // "IndexOutOfBoundsException: no such KIND."
    private static void promise06NoSuchKind() {
        PondReader x = Tape.reader("kind a 1;kind b 1 2;kind c 1 2 3;kind d 1 2 3 4 odds 99;");
        for (int kind : new int[] {-1, 4, 5, Integer.MIN_VALUE, Integer.MAX_VALUE}) {
            for (int what : new int[] {0, 1, 2, -1}) {
                due("look(" + kind + ", " + what + ")", looked(x, kind, what), -101);
            }
        }
        due("look(3, 0)", looked(x, 3, 0), 4);
        due("look(3, 1)", looked(x, 3, 1), 99);
        due("a new object", looked(new PondReader(), 0, 0), -101);
        x.text(0);
        due("kinds of the text ahead", looked(x, 0, 0), -101);
    }

    // "NoSuchElementException: no such what."
    private static void promise06NoSuchWhat() {
        PondReader x = Tape.reader("kind a 1;kind b 1 2;");
        for (int kind = 0; kind < 2; kind++) {
            for (int what : new int[] {-1, 2, 3, Integer.MIN_VALUE, Integer.MAX_VALUE}) {
                due("look(" + kind + ", " + what + ")", looked(x, kind, what), -102);
            }
        }
    }

    // "odds 1 .. 99 (1 without)", "1 .. 6 RISES"
    private static void promise06OddsAndRises() {
        PondReader x = Tape.reader("kind a 0;kind b -99 99 odds 1;kind c 1 1 1 1 1 1 odds 99;kind d -0-0;");
        int[][] due = {{1, 1}, {2, 1}, {6, 99}, {2, 1}};
        for (int kind = 0; kind < 4; kind++) {
            due("rises of " + kind, looked(x, kind, 0), due[kind][0]);
            due("odds of " + kind, looked(x, kind, 1), due[kind][1]);
        }
    }
}
