import java.io.IOException;
import java.nio.file.Files;
import java.nio.file.Path;
import java.util.List;
import java.util.regex.Matcher;
import java.util.regex.Pattern;

/**
 * Runs the scripts of src/test/scripts: behind each sentence of the document its calls, on a new object, with the
 * answers that are due. Each call that is refused must change nothing that later calls show. The sentences must stand
 * in the document, and none of it, from "Terms" to the last promise, may be without a script.
 */
public final class ScriptsTest {
    private static final Checks checks = new Checks();

    public static void main(String[] args) throws IOException {
        Path root = Path.of(args.length > 0 ? args[0] : ".");
        ScriptFiles files = ScriptFiles.of(root);
        for (Script script : files.scripts) {
            runOn(new SunLamps(), script);
            runOn(new PlainModel(), script);
            for (int i = 0; i < script.lines.size(); i++) {
                if (script.lines.get(i).isRefusal()) changesNothing(script, i);
            }
        }
        Path document = root.resolve(Path.of("..", "shared", "DOC.md"));
        if (Files.exists(document)) holdAgainst(Files.readString(document), files.quotes);
        checks.holds("there are scripts", files.scripts.size() > 100);
        System.out.println(files.scripts.size() + " scripts");
        checks.end("ScriptsTest");
    }

    // ---- running

    private static void runOn(Object target, Script script) {
        checks.holds(script.title + ": 512 calls at most", script.callsUpTo(script.lines.size()) <= Script.MOST_CALLS);
        for (Script.Line line : script.lines) {
            long answer = Script.run(target, line);
            String call = target.getClass().getName() + ", " + script.title + ": " + line.text();
            if (line.isDue()) checks.due(call, answer, line.due());
        }
    }

    /** Two objects, one of which gets the refused call, must look alike in all ways. */
    private static void changesNothing(Script script, int refused) {
        Script.Line line = script.lines.get(refused);
        checks.holds("called once: " + line.text(), line.times() == 1);
        for (int which = 0; which < Look.LOOKS; which++) {
            SunLamps with = new SunLamps(), without = new SunLamps();
            script.runUpTo(with, refused);
            script.runUpTo(without, refused);
            Script.run(with, line);
            Look a = Look.at(with, which), b = Look.at(without, which);
            String difference = Look.difference(a, b);
            checks.holds(script.title + ": " + line.text() + " changes nothing: " + difference, difference == null);
            int calls = script.callsUpTo(refused) + 1 + a.answers.size();
            checks.holds(script.title + ": " + line.text() + ": 512 calls at most: " + calls, calls <= Script.MOST_CALLS);
        }
    }

    // ---- the document

    private static String plain(String text) {
        return text.replaceAll("\\s+", " ").trim();
    }

    /** The document's words from "Terms" to the last promise, without headings, marks and signatures. */
    private static String told(String document) {
        int from = document.indexOf("\n## Terms"), to = document.indexOf("\n## Not promised");
        if (from < 0 || to < from) return "";
        StringBuilder text = new StringBuilder();
        for (String line : document.substring(from, to).split("\n")) {
            if (line.startsWith("## ") || line.startsWith("```") || line.startsWith("Ahead of the calls")) continue;
            text.append(line.replaceFirst("^==== [0-9] ", "").replaceFirst("^`[^`]*`: ", "")).append('\n');
        }
        return plain(text.toString());
    }

    private static void holdAgainst(String document, List<String> quotes) {
        String all = plain(document), told = told(document);
        boolean[] isQuoted = new boolean[told.length()];
        for (String sentence : quotes) {
            String quote = plain(sentence);
            checks.holds("the document says: " + quote, all.contains(quote));
            for (int at = told.indexOf(quote); at >= 0; at = told.indexOf(quote, at + 1)) {
                for (int i = at; i < at + quote.length(); i++) isQuoted[i] = true;
            }
        }
        Matcher word = Pattern.compile("[A-Za-z0-9]+").matcher(told);
        while (word.find()) {
            int end = Math.min(told.length(), word.start() + 60);
            checks.holds("a script for: " + told.substring(word.start(), end), isQuoted[word.start()]);
        }
        checks.holds("the document is told", told.length() > 1000);
    }
}
