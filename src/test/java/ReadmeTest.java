import java.io.IOException;
import java.nio.file.Files;
import java.nio.file.Path;

/** The example of README.md: each of its calls stands there with the answer that it gets here. */
public final class ReadmeTest {
    private static final FeteBoard FETE = new FeteBoard();

    private static String readme = "";
    private static int wrong = 0;

    private static void fault(String text) {
        wrong++;
        System.out.println(text);
    }

    /** The comment behind this call, up to its colon, must be this answer. */
    private static void told(String call, String answer) {
        int at = readme.indexOf(call + ";");
        int end = at < 0 ? -1 : readme.indexOf('\n', at);
        if (end < 0) {
            fault("README.md has no " + call);
            return;
        }
        String line = readme.substring(at, end);
        int comment = line.indexOf("// ");
        String due = comment < 0 ? "" : line.substring(comment + 3).split(":")[0];
        if (!due.equals(answer)) {
            fault("README.md tells " + due + " for " + call + ", which answered " + answer);
        }
    }

    private static void told(String call, int answer) {
        told(call, Integer.toString(answer));
    }

    private static String queueOf(int booth) {
        try {
            return Integer.toString(FETE.queue(booth, 0));
        } catch (IndexOutOfBoundsException e) {
            return "IndexOutOfBoundsException";
        }
    }

    public static void main(String[] args) throws IOException {
        readme = Files.readString(Path.of("README.md"));
        int darts = FETE.addBooth(2, 14, 3, 1);
        told("int darts = fete.addBooth(2, 14, 3, 1)", darts);
        int hoops = FETE.addBooth(3, 20, 9, 2);
        told("int hoops = fete.addBooth(3, 20, 9, 2)", hoops);
        int ann = FETE.addHelper();
        told("int ann = fete.addHelper()", ann);
        int eve = FETE.come(12, 10);
        told("int eve = fete.come(12, 10)", eve);
        told("fete.work(ann, darts)", FETE.work(ann, darts));
        told("fete.booth(darts, 5)", FETE.booth(darts, 5));
        told("fete.booth(hoops, 5)", FETE.booth(hoops, 5));
        told("fete.foresee(eve, 12, 0)", FETE.foresee(eve, 12, 0));
        told("fete.closes(darts)", FETE.closes(darts));
        told("fete.pass(12)", FETE.pass(12));
        told("fete.visitor(eve, 0)", FETE.visitor(eve, 0));
        told("fete.luck()", Double.toString(FETE.luck()));
        told("fete.bring(darts, 4)", FETE.bring(darts, 4));
        told("fete.queue(darts, 0)", queueOf(darts));
        System.out.println(wrong == 0 ? "the example of README.md holds" : wrong + " faults in README.md");
        if (wrong != 0) {
            System.exit(1);
        }
    }
}
