import java.io.IOException;
import java.nio.file.Files;
import java.nio.file.Path;
import java.util.ArrayList;
import java.util.HashMap;
import java.util.List;
import java.util.Map;
import java.util.regex.Matcher;
import java.util.regex.Pattern;
import java.util.stream.Stream;

/**
 * Reads the scripts of src/test/scripts. An empty line ends a script; "# .." quotes the document, "// .." says
 * something, "setup NAME" names lines that other scripts begin "with NAME".
 */
final class ScriptFiles {
    private static final Pattern SEVERAL = Pattern.compile("(\\d+)\\.\\.(\\d+): (.*)");

    final List<Script> scripts = new ArrayList<>();
    final Map<String, Script> setups = new HashMap<>();
    final List<String> quotes = new ArrayList<>();

    static ScriptFiles of(Path root) throws IOException {
        List<Path> files;
        try (Stream<Path> all = Files.list(root.resolve(Path.of("src", "test", "scripts")))) {
            files = all.filter(file -> file.toString().endsWith(".txt")).sorted().toList();
        }
        ScriptFiles read = new ScriptFiles();
        for (Path file : files) read.read(file);
        return read;
    }

    private void read(Path file) throws IOException {
        Script script = null;
        int number = 0;
        for (String line : Files.readAllLines(file)) {
            number++;
            if (line.startsWith("//")) continue;
            if (line.isBlank()) script = null;
            else if (script == null) script = begin(file.getFileName() + ":" + number, line);
            else addTo(script, line);
        }
    }

    private Script begin(String place, String line) {
        Script script = new Script(place + " " + line);
        if (line.startsWith("setup ")) {
            setups.put(line.substring(6), script);
        } else {
            if (!line.startsWith("# ")) throw new IllegalArgumentException(place + " begins without a sentence");
            scripts.add(script);
            quotes.add(line.substring(2));
        }
        return script;
    }

    private void addTo(Script script, String line) {
        if (line.startsWith("# ")) quotes.add(line.substring(2));
        else if (line.startsWith("with ")) script.lines.addAll(setups.get(line.substring(5)).lines);
        else addAll(script, line);
    }

    /** A line, or several: "0..5: take 0 #0/1/@ = 1" is six lines, each with its number for the @. */
    private static void addAll(Script script, String line) {
        Matcher several = SEVERAL.matcher(line);
        if (!several.matches()) {
            script.add(line);
            return;
        }
        int last = Integer.parseInt(several.group(2));
        for (int i = Integer.parseInt(several.group(1)); i <= last; i++) {
            script.add(several.group(3).replace("@", Integer.toString(i)));
        }
    }
}
