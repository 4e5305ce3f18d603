import java.io.IOException;
import java.nio.file.Files;
import java.nio.file.Path;
import java.util.ArrayList;
import java.util.List;

/** README.md tells the truth: each line of its example, done in order, answers what stands behind it. */
public final class ReadmeTest {
    private static final Check CHECK = new Check("README.md");
    private static final LoopRegions X = new LoopRegions(3, 3);
    private static final List<String> DONE = new ArrayList<>();

    public static void main(String[] args) throws IOException {
        DONE.add("LoopRegions x = new LoopRegions(3, 3);");
        line("x.duty(0, 1);", X.duty(0, 1));
        line("x.duty(4, 2);", X.duty(4, 2));
        int m = X.mark();
        line("int m = x.mark();", m);
        line("x.run();", X.run());
        line("x.is(0);", X.is(0));
        line("x.reason(0);", X.reason(0));
        for (int what = 0; what <= 5; what++) {
            line("x.step(1, " + what + ");", X.step(1, what));
        }
        line("x.edge(0, false);", X.edge(0, false));
        line("x.duty(8, 2);", X.duty(8, 2));
        line("x.run();", X.run());
        line("x.wrong();", X.wrong());
        line("x.back(m);", X.back(m));
        line("x.wrong();", X.wrong());
        line("x.is(0);", X.is(0));
        CHECK.due("the example", example(), DONE);
        everyCallIsTold();
        CHECK.end();
    }

    private static void line(String call, Object answer) {
        DONE.add(call + " // " + answer);
    }

    /** The example's lines, each as the call and its answer, without what is said about it. */
    private static List<String> example() throws IOException {
        String text = readme();
        int from = text.indexOf("```java\n") + "```java\n".length();
        List<String> lines = new ArrayList<>();
        for (String line : text.substring(from, text.indexOf("```", from)).split("\n")) {
            lines.add(line.replaceAll(" +// ([^:]*).*", " // $1"));
        }
        return lines;
    }

    private static void everyCallIsTold() throws IOException {
        String text = readme();
        for (java.lang.reflect.Method method : LoopRegions.class.getMethods()) {
            if (method.getDeclaringClass() == LoopRegions.class) {
                CHECK.due("a row for " + method.getName(), text.contains("\n| `" + method.getName() + "("), true);
            }
        }
    }

    private static String readme() throws IOException {
        return Files.readString(Path.of("README.md"));
    }
}
