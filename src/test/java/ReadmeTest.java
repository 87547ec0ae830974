import java.io.IOException;
import java.nio.file.Files;
import java.nio.file.Path;
import java.util.ArrayList;
import java.util.List;
import java.util.concurrent.Callable;

/** The calls of README.md's example answer what stands beside them there. */
public final class ReadmeTest {
    private static final String MADE = "TraceWarden warden = new TraceWarden();";

    private ReadmeTest() {
    }

    public static void main(String[] args) throws IOException {
        List<String> example = example();
        TraceWarden warden = new TraceWarden();
        List<String> tried = new ArrayList<>();
        tried.add(MADE);
        add(tried, "warden.text(0x2962587C61212847L);", () -> warden.text(0x2962587C61212847L));
        add(tried, "warden.compile();", warden::compile);
        add(tried, "warden.next(0, 1);", () -> warden.next(0, 1));
        add(tried, "warden.output(2, 1, 0);", () -> warden.output(2, 1, 0));
        add(tried, "warden.begin();", warden::begin);
        add(tried, "warden.step(1);", () -> warden.step(1));
        add(tried, "warden.loop(0);", () -> warden.loop(0));
        add(tried, "warden.step(0);", () -> warden.step(0));
        add(tried, "warden.window();", warden::window);
        add(tried, "warden.report();", warden::report);
        add(tried, "warden.said(7);", () -> warden.said(7));
        Checks.same("the example has as many lines", tried.size(), example.size());
        for (int i = 0; i < Math.min(tried.size(), example.size()); i++) {
            Checks.same("line " + i, example.get(i), tried.get(i));
        }
        Checks.same("the report", "failed 2 by 2", Checks.reported(warden));
        Checks.finish();
    }

    private static void add(List<String> lines, String call, Callable<?> made) {
        lines.add(call + " " + Checks.answer(made));
    }

    /** The lines of the first block of code, each with the answer that its comment begins with. */
    private static List<String> example() throws IOException {
        List<String> lines = new ArrayList<>();
        boolean within = false;
        for (String line : Files.readAllLines(Path.of("README.md"))) {
            if (line.startsWith("```")) {
                if (within) {
                    break;
                }
                within = true;
            } else if (within) {
                lines.add(line.replaceAll("\\s*// ([^,]*),.*", " $1"));
            }
        }
        return lines;
    }
}
