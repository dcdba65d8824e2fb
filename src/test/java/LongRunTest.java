import java.io.IOException;
import java.nio.file.DirectoryStream;
import java.nio.file.Files;
import java.nio.file.Path;
import java.util.ArrayList;
import java.util.Collections;
import java.util.HashSet;
import java.util.List;
import java.util.Random;
import java.util.Set;

/**
 * Runs as long as an object is made for, each answer held up to the 512th call: THE TEXT is filled to its
 * 150 bytes, a TABLE with six CHILDREN is read from it, and all else comes behind that. The kept runs have
 * the answers that are due in files; the random ones are held against PlainModel.
 */
final class LongRunTest {
    private static final int CALLS = 512;
    private static final int BYTES = 150;
    private static final int RANDOM_RUNS = 400;
    private static final Path KEPT = Path.of("src/test/runs");
    private static final int[] WRONG = {-1, -2, 6, 61, Integer.MIN_VALUE, Integer.MAX_VALUE};
    /** Behind each name the most that a number may be: i is a CHILD, o a CHILD or NONE. */
    private static final String[] ANY = {"minute 3", "minute 3", "minute 60", "carrot i", "moves i 7", "moves i 7", "woman 7",
        "undo", "undo", "of i 5", "now i 2", "then 60 o", "quiet", "stand 60 1", "helps", "words i", "say", "note i 30 2 20 9 6 60",
        "note i 9 1 3 2 1 14", "forget", "is i", "look i", "who i", "rings i i", "eyes 10", "weeks 999999 60", "part 1", "image 1",
        "from 1", "status 2", "count 7", "digest", "digest", "type 127", "child 5 7 20 30"};
    /** These are dear, or leave little behind them: asked now and then. */
    private static final String[] SELDOM = {"seated o", "read", "table 7", "clear"};
    private static final Check check = new Check();

    private LongRunTest() { }

    public static void main(String[] args) throws IOException {
        List<KeptRun> kept = keptRuns();
        check.holds("there are kept runs", kept.size() > 1);
        for (KeptRun run : kept) {
            play(run);
            holdsWhatItIsFor(run);
        }
        for (int k = 1; k < kept.size(); k++) {
            playBoth(kept.get(k - 1), kept.get(k));
        }
        for (int seed = 0; seed < RANDOM_RUNS; seed++) {
            new RandomRun(seed).go();
        }
        check.end();
    }

    private static List<KeptRun> keptRuns() throws IOException {
        List<Path> files = new ArrayList<>();
        try (DirectoryStream<Path> all = Files.newDirectoryStream(KEPT, "*.txt")) {
            all.forEach(files::add);
        }
        Collections.sort(files);
        List<KeptRun> runs = new ArrayList<>();
        for (Path file : files) {
            runs.add(new KeptRun(file));
        }
        return runs;
    }

    private static void ask(KeptRun run, int k, Calls x) {
        KeptRun.Call call = run.calls.get(k);
        check.due(run.name + ", call " + (k + 1) + ": " + call.told(), x.answer(call.name(), call.numbers()), call.due());
    }

    private static void play(KeptRun run) {
        check.due("calls of " + run.name, run.calls.size(), CALLS);
        Calls x = new Calls(new BiteChild());
        for (int k = 0; k < run.calls.size(); k++) {
            ask(run, k, x);
        }
    }

    /** Two objects by turns: neither sees what is asked of the other. */
    private static void playBoth(KeptRun one, KeptRun other) {
        Calls x = new Calls(new BiteChild());
        Calls y = new Calls(new BiteChild());
        for (int k = 0; k < Math.min(one.calls.size(), other.calls.size()); k++) {
            ask(one, k, x);
            ask(other, k, y);
        }
    }

    /** Behind a TABLE of six from 150 bytes: what is taken, and what is refused for each reason. */
    private static void holdsWhatItIsFor(KeptRun run) {
        PlainModel model = new PlainModel();
        Calls y = new Calls(model);
        Set<String> seen = new HashSet<>();
        boolean read = false;
        for (KeptRun.Call call : run.calls) {
            int bad = model.refused[0];
            check.due(run.name + " by the plain model: " + call.told(), y.answer(call.name(), call.numbers()), call.due());
            read |= call.name().equals("read") && call.due() > 0 && model.text.length() == BYTES && model.s.kids.size() == 6;
            if (read) {
                boolean refused = call.due() == BiteChild.NO || call.due() == BiteChild.FULL || model.refused[0] > bad;
                seen.add(refused ? model.refused[0] > bad ? "BAD" : "refused " + call.due() : call.name());
            }
        }
        for (String part : List.of("minute", "image", "from", "undo", "note", "BAD", "refused -3", "refused -4", "digest")) {
            check.holds(run.name + " has six from 150 bytes, and behind them " + part, seen.contains(part));
        }
    }

    /** One run of 512 calls on the class and on the plain model. */
    private static final class RandomRun {
        private final int seed;
        private final Random random;
        private final PlainModel model = new PlainModel();
        private final Calls x = new Calls(new BiteChild());
        private final Calls y = new Calls(model);
        private final int wrongOneIn;
        private int made;

        RandomRun(int seed) {
            this.seed = seed;
            random = new Random(seed);
            wrongOneIn = 3 + random.nextInt(40);
        }

        void go() {
            String text = fullText();
            check.due("bytes of '" + text + "'", text.length(), BYTES);
            for (int k = 0; k < text.length(); k++) {
                ask("type", text.charAt(k));
            }
            ask("type", ';');
            ask("read");
            check.due("seed " + seed + ": CHILDREN of '" + text + "'", model.s.kids.size(), 6);
            while (made < CALLS) {
                String[] told = random.nextInt(60) == 0 ? SELDOM : ANY;
                any(told[random.nextInt(told.length)].split(" "));
            }
        }

        private void ask(String name, int... numbers) {
            made++;
            long due = y.answer(name, numbers);
            check.due("seed " + seed + ", call " + made + ": " + Calls.told(name, numbers), x.answer(name, numbers), due);
        }

        private void any(String[] told) {
            int[] numbers = new int[told.length - 1];
            for (int k = 0; k < numbers.length; k++) {
                boolean wrong = random.nextInt(wrongOneIn * numbers.length) == 0;
                numbers[k] = wrong ? wrongNumber(told[k + 1]) : number(told[k + 1]);
            }
            ask(told[0], numbers);
        }

        private int wrongNumber(String most) {
            int justBeyond = most.equals("i") || most.equals("o") ? model.s.kids.size() : Integer.parseInt(most) + 1;
            return random.nextBoolean() ? justBeyond : WRONG[random.nextInt(WRONG.length)];
        }

        private int number(String most) {
            int children = model.s.kids.size();
            switch (most) {
                case "i": return random.nextInt(Math.max(1, children));
                case "o": return random.nextInt(children + 1) - 1;
                default: return random.nextInt(Integer.parseInt(most) + 1);
            }
        }

        /** ITEMS as told, with carrots and then blanks up to the last byte. */
        private String fullText() {
            List<Integer> seats = new ArrayList<>(List.of(0, 1, 2, 3, 4, 5, 6, 7));
            Collections.shuffle(seats, random);
            StringBuilder text = new StringBuilder("table ").append(random.nextInt(8)).append(';');
            for (int i = 0; i < 6; i++) {
                text.append("child ").append(random.nextInt(6)).append(' ').append(seats.get(i)).append(' ')
                    .append(random.nextInt(21)).append(' ').append(random.nextInt(31)).append(';');
            }
            while (text.length() + "carrot 0;".length() <= BYTES && random.nextInt(6) != 0) {
                text.append("carrot ").append(random.nextInt(6)).append(';');
            }
            while (text.length() < BYTES) {
                text.insert(text.indexOf(" ", random.nextInt(text.lastIndexOf(" "))), ' ');
            }
            return text.toString();
        }
    }
}
