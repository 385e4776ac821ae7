import java.io.IOException;
import java.nio.file.Files;
import java.nio.file.Path;
import java.util.List;

/** Runs of calls whose answers a second model gave (tools/model.py), kept in src/test/data. */
public final class ModelRuns {
    public static void main(String[] args) throws IOException {
        play(Files.readAllLines(Path.of("src/test/data/model-runs.txt")));
        play(Files.readAllLines(Path.of("src/test/data/met-runs.txt")));
        Due.end();
    }

    private static void play(List<String> rows) {
        StoryRound x = new StoryRound();
        String run = "";
        for (String row : rows) {
            if (row.startsWith("new ")) {
                x = new StoryRound();
                run = row;
            } else if (row.startsWith("text ")) {
                Due.feed(x, row.substring(5));
            } else {
                String[] words = row.split(" ");
                Due.is(run + ": " + row, call(x, words), Long.parseLong(words[words.length - 1]));
            }
        }
        Due.is("whether there are runs", rows.isEmpty() ? 0 : 1, 1);
    }

    private static long call(StoryRound x, String[] words) {
        int[] n = new int[words.length - 3];
        for (int i = 0; i < n.length; i++) {
            n[i] = Integer.parseInt(words[i + 1]);
        }
        switch (words[0]) {
            case "compile":
                return x.compile();
            case "body":
                return x.body(n[0], n[1]);
            case "voice":
                return x.voice(n[0], n[1]);
            case "resume":
                return x.resume(n[0], n[1]);
            case "inject":
                return x.inject(n[0], n[1], n[2]);
            case "close":
                return x.close(n[0]);
            case "sweep":
                return x.sweep();
            case "answer":
                return x.answer();
            case "local":
                return x.local(n[0], n[1], n[2]);
            case "failures":
                return x.failures();
            case "failure":
                return x.failure(n[0], n[1]);
            case "ring":
                return x.ring(n[0]);
            case "digest":
                return x.digest();
            default:
                throw new IllegalArgumentException(words[0]);
        }
    }
}
