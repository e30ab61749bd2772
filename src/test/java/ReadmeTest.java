import java.io.IOException;
import java.nio.file.Files;
import java.nio.file.Path;
import java.util.List;

/** The run that README.md tells: each call is there, in this order, with its answer behind it. */
public final class ReadmeTest {
    private static final Check CHECK = new Check();
    private static List<String> lines;
    private static int place = 0;

    public static void main(String[] args) throws IOException {
        lines = Files.readAllLines(Path.of("README.md"));
        RoofsOfSnow x = new RoofsOfSnow();
        String text = "r40,30,5,200,50,1;r20,60,10,90,200,8;b0,90,4;b0,140,6;p1,3;k1,12,6,0;";
        told("tellText(x, \"" + text + "\");");
        Check.write(x, text);
        step("x.fault();", x.fault());
        step("x.lay();", x.lay());
        step("x.roof(0, 2);", x.roof(0, 2));
        step("x.thought(0, -1);", x.thought(0, -1));
        step("x.goes(0, 10, 0);", x.goes(0, 10, 0));
        step("x.goes(0, 10, 1);", x.goes(0, 10, 1));
        step("x.sky(1);", x.sky(1));
        step("x.loss(4);", x.loss(4));
        step("x.loss(0);", x.loss(0));
        step("x.best(1, -1);", x.best(1, -1));
        step("x.best(1, 0);", x.best(1, 0));
        step("x.keep();", x.keep());
        step("x.on(4, 1);", x.on(4, 1));
        step("x.thought(0, -1);", x.thought(0, -1));
        step("x.back();", x.back());
        step("x.thought(0, -1);", x.thought(0, -1));
        told("```");
        CHECK.end();
    }

    /** The next line of README.md that tells something of this run. */
    private static String nextLine() {
        while (place < lines.size()) {
            String line = lines.get(place++);
            boolean begun = line.startsWith("tellText(");
            if (begun || line.startsWith("x.") || line.equals("```") && place > 1
                    && lines.get(place - 2).startsWith("x.")) {
                return line;
            }
        }
        return "";
    }

    private static void told(String line) {
        String next = nextLine();
        CHECK.due("README: " + line + " beside " + next, next.equals(line) ? 1 : 0, 1);
    }

    private static void step(String call, long answer) {
        String next = nextLine();
        boolean same = next.matches("\\Q" + call + "\\E +// " + answer + ": .*");
        CHECK.due("README: " + call + " answers " + answer + " beside " + next, same ? 1 : 0, 1);
    }
}
