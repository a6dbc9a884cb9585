import java.io.IOException;
import java.nio.file.Files;
import java.nio.file.Path;
import java.util.List;

/** The lines of README.md's example answer what README.md says behind them. */
public final class ReadmeTest {
    private static final Checks checks = new Checks();
    private static List<String> lines;
    private static int told;

    public static void main(String[] args) throws IOException {
        lines = Files.readAllLines(Path.of("README.md"));
        TideTreaty sea = new TideTreaty();
        said("cell(0, 3, 40, 0)", sea.cell(0, 3, 40, 0));
        said("dike(0, 2)", sea.dike(0, 2));
        said("want(1, 9)", sea.want(1, 9));
        said("treaty(0, 0, 2, 0, 6, 5)", sea.treaty(0, 0, 2, 0, 6, 5));
        said("guarded()", sea.guarded());
        said("wet()", sea.wet());
        said("then(12, 0)", sea.then(12, 0));
        said("then(12, 2)", sea.then(12, 2));
        said("firstLost()", sea.firstLost());
        said("cheapest(63, 12, 0)", sea.cheapest(63, 12, 0));
        said("cheapest(63, 12, 1)", sea.cheapest(63, 12, 1));
        said("year(3)", sea.year(3));
        said("undo()", sea.undo());
        said("count(1)", sea.count(1));
        said("image(0)", sea.image(0));
        said("coast(9)", sea.coast(9));
        said("status(0)", sea.status(0));
        said("from(0)", sea.from(0));
        checks.due(0, "lines of the example", told, lines.stream().filter(line -> line.startsWith("sea.")).count());
        Checks.type(sea, "coast 3; cell 0 5 80 1; moon 6;");
        checks.due(12, "read()", sea.read(), 3);
        checks.finish();
    }

    private static void said(String call, int answer) {
        told++;
        String line = "";
        for (String one : lines) {
            if (one.startsWith("sea." + call + ";")) line = one;
        }
        checks.due(0, "README.md says '" + line + "', not " + answer, line.contains("// " + answer + ":") ? 1 : 0, 1);
    }
}
