import java.io.IOException;
import java.nio.file.Files;
import java.nio.file.Path;
import java.util.ArrayList;
import java.util.List;

/**
 * A run of calls that is kept in a file, each with the answer that is due: "moves 2 6 = 5".
 * A line 'type "ab" = 9' is a call for each byte: 9 is due for the first, one more for each behind it.
 * Lines that begin with # say what the run is for.
 */
final class KeptRun {
    record Call(String name, int[] numbers, long due) {
        String told() {
            return Calls.told(name, numbers);
        }
    }

    final String name;
    final List<Call> calls = new ArrayList<>();

    KeptRun(Path file) throws IOException {
        name = file.getFileName().toString();
        for (String line : Files.readAllLines(file)) {
            if (!line.isEmpty() && line.charAt(0) != '#') {
                take(line);
            }
        }
    }

    private void take(String line) {
        int at = line.lastIndexOf(" = ");
        long due = Long.parseLong(line.substring(at + 3));
        String call = line.substring(0, at);
        if (call.startsWith("type \"")) {
            String bytes = call.substring("type \"".length(), call.length() - 1);
            for (int k = 0; k < bytes.length(); k++) {
                calls.add(new Call("type", new int[] {bytes.charAt(k)}, due + k));
            }
            return;
        }
        String[] words = call.split(" ");
        int[] numbers = new int[words.length - 1];
        for (int k = 0; k < numbers.length; k++) {
            numbers[k] = Integer.parseInt(words[k + 1]);
        }
        calls.add(new Call(words[0], numbers, due));
    }
}
