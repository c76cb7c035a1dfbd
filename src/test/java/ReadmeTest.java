import java.io.IOException;
import java.nio.file.Files;
import java.nio.file.Path;
import java.util.ArrayList;
import java.util.List;
import java.util.regex.Matcher;
import java.util.regex.Pattern;

/** The example of README.md: each call of it is made here, and its answer there is the one that the class gives. */
public final class ReadmeTest {
    private static final Check CHECK = new Check();

    private ReadmeTest() {
    }

    public static void main(String[] args) throws IOException {
        CHECK.about("README.md");
        List<String> told = answersTold(Files.readString(Path.of("README.md")));
        List<Integer> given = answersGiven(new PondReader());
        CHECK.due("answers told", told.size(), given.size());
        for (int i = 0; i < told.size() && i < given.size(); i++) {
            int due = told.get(i).equals("NONE") ? PondReader.NONE : Integer.parseInt(told.get(i));
            CHECK.due("answer " + i, given.get(i), due);
        }
        CHECK.end();
    }

    /** What stands behind // in the lines of the example that end so. */
    private static List<String> answersTold(String readme) {
        List<String> told = new ArrayList<>();
        Matcher answer = Pattern.compile("\\);\\s+// (NONE|\\d+)").matcher(readme);
        while (answer.find()) {
            told.add(answer.group(1));
        }
        return told;
    }

    private static List<Integer> answersGiven(PondReader pond) {
        List<Integer> given = new ArrayList<>();
        given.add(tell(pond, "pond 4 3; reed 2 0; land 1 1; shore 3 2; kind fly 10 -5; kind stone 50 20 odds 3;"
            + "cork red 0 0; skater sue 0 2; law rise * 2 - reeds;"));
        given.add(pond.fall(0, 4, 2));
        given.add(pond.rise(0, 3));
        given.add(pond.where(0, 3));
        given.add(pond.note(0, 3, 9));
        given.add(pond.tales());
        given.add(pond.tale(1, 1));
        given.add(tell(pond, "pond 9 1;"));
        given.add(pond.fault(0));
        given.add(pond.fault(1));
        return given;
    }

    private static int tell(PondReader pond, String text) {
        int[] row = new int[5];
        for (int i = 0; i < text.length(); i += 20) {
            for (int k = 0; k < 20; k++) {
                row[k / 4] = row[k / 4] << 8 | (i + k < text.length() ? text.charAt(i + k) : ' ');
            }
            pond.feed(row[0], row[1], row[2], row[3], row[4]);
        }
        return pond.text(text.length());
    }
}
