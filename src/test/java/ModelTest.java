import java.util.Random;

/** Random runs of calls, each answer held against PlainModel's. */
final class ModelTest {
    private static final int RUNS = 1200;
    /** Half of the 512 calls that an object is made for: each step also asks for the digest. */
    private static final int STEPS = 256;
    private static final int[] WRONG = {-1, -2, 6, 7, 8, 31, 61, 128, Integer.MIN_VALUE, Integer.MAX_VALUE};
    private static final String[] PIECES = {"table", "child", "carrot", ";", ";", " ", "0", "1", "7", "8", "20", "21",
        "30", "31", "100", "A", "-", "tab", "\t", "x"};
    private static final Check check = new Check();

    private final Random random;
    private final BiteChild x = new BiteChild();
    private final PlainModel y = new PlainModel();
    private final int wrongOneIn;

    private ModelTest(long seed) {
        random = new Random(seed);
        wrongOneIn = 4 + random.nextInt(60);
    }

    public static void main(String[] args) {
        for (int run = 0; run < RUNS; run++) {
            new ModelTest(run).go(run);
        }
        check.end();
    }

    private void go(int run) {
        int lean = run % 3;
        for (int k = 0; k < STEPS; k++) {
            if (k < 8 && lean != 0) {
                child();
            } else if (lean == 2 && k % 4 != 0) {
                change(random.nextInt(6));
            } else {
                step(random.nextInt(40));
            }
            check.due("run " + run + ", step " + k + ": digest()", x.digest(), y.digest());
        }
        for (int what = 0; what < 3; what++) {
            check.due("run " + run + ": status(" + what + ")", x.status(what), y.status(what));
        }
    }

    private int upTo(int most) {
        if (random.nextInt(wrongOneIn) == 0) {
            return WRONG[random.nextInt(WRONG.length)];
        }
        return random.nextInt(6) == 0 ? most : random.nextInt(most + 1);
    }

    private int kid() {
        return upTo(Math.max(0, y.s.kids.size() - 1));
    }

    private int kidOrNone() {
        return random.nextInt(3) == 0 ? -1 : kid();
    }

    private void child() {
        int kind = upTo(5), seat = upTo(7), words = upTo(20), hunger = upTo(30);
        check.due("child", x.child(kind, seat, words, hunger), y.child(kind, seat, words, hunger));
    }

    private void change(int which) {
        int i = kid(), seat = upTo(7), n = random.nextInt(3) == 0 ? upTo(60) : 1;
        switch (which) {
            case 0: case 1: check.due("minute", x.minute(n), y.minute(n)); break;
            case 2: check.due("carrot", x.carrot(i), y.carrot(i)); break;
            case 3: check.due("moves", x.moves(i, seat), y.moves(i, seat)); break;
            case 4: check.due("woman", x.woman(seat), y.woman(seat)); break;
            default: check.due("undo", x.undo(), y.undo()); break;
        }
    }

    private void type(String piece) {
        for (int k = 0; k < piece.length(); k++) {
            int c = piece.charAt(k);
            check.due("type", x.type(c), y.type(c));
        }
    }

    /** Now and then a text that is as told, but for a piece that may stand wrong in it. */
    private void text() {
        check.due("clear", x.clear(), y.clear());
        type("table " + random.nextInt(8) + ";");
        int items = random.nextInt(8);
        for (int k = 0; k < items; k++) {
            type(random.nextInt(3) == 0 ? "carrot " + random.nextInt(3) + ";"
                : "child " + random.nextInt(6) + " " + random.nextInt(8) + " " + random.nextInt(21) + " "
                    + random.nextInt(31) + ";");
            if (random.nextInt(12) == 0) {
                type(PIECES[random.nextInt(PIECES.length)]);
            }
        }
        check.due("read of '" + y.text + "'", x.read(), y.read());
    }

    private void anyText() {
        check.due("clear", x.clear(), y.clear());
        int pieces = random.nextInt(9);
        for (int k = 0; k < pieces; k++) {
            type(random.nextInt(2) == 0 ? " " : "");
            type(k == 0 && random.nextInt(4) != 0 ? "table " + random.nextInt(8) + ";"
                : PIECES[random.nextInt(PIECES.length)]);
        }
        check.due("read of '" + y.text + "'", x.read(), y.read());
    }

    private void step(int which) {
        int i = kid(), n = upTo(60), seat = upTo(7), none = kidOrNone();
        switch (which) {
            case 0: if (random.nextInt(4) == 0) { check.due("table", x.table(seat), y.table(seat)); } break;
            case 1: case 2: case 3: child(); break;
            case 4: int c = random.nextInt(140) - 5; check.due("type", x.type(c), y.type(c)); break;
            case 5: check.due("clear", x.clear(), y.clear()); break;
            case 6: if (random.nextInt(3) == 0) { text(); } break;
            case 7: if (random.nextInt(3) == 0) { anyText(); } break;
            case 8: case 9: case 10: case 11: case 12: change(random.nextInt(6)); break;
            case 13: int of = upTo(5); check.due("of", x.of(i, of), y.of(i, of)); break;
            case 14: int now = upTo(2); check.due("now", x.now(i, now), y.now(i, now)); break;
            case 15: check.due("then", x.then(n, none), y.then(n, none)); break;
            case 16: check.due("quiet", x.quiet(), y.quiet()); break;
            case 17: int what = upTo(1); check.due("stand", x.stand(n, what), y.stand(n, what)); break;
            case 18: check.due("helps", x.helps(), y.helps()); break;
            case 19: if (random.nextInt(4) == 0) { check.due("seated", x.seated(none), y.seated(none)); } break;
            case 20: check.due("words", x.words(i), y.words(i)); break;
            case 21: check.due("say", x.say(), y.say()); break;
            case 22: case 23: note(i); break;
            case 24: check.due("forget", x.forget(), y.forget()); break;
            case 25: check.due("is", x.is(i), y.is(i)); break;
            case 26: check.due("look", x.look(i), y.look(i)); break;
            case 27: check.due("who", x.who(i), y.who(i)); break;
            case 28: int j = kid(); check.due("rings", x.rings(i, j), y.rings(i, j)); break;
            case 29: int eyes = upTo(10); check.due("eyes", x.eyes(eyes), y.eyes(eyes)); break;
            case 30: int seed = upTo(999999); check.due("weeks", x.weeks(seed, n), y.weeks(seed, n)); break;
            case 31: int part = upTo(1); check.due("part", x.part(part), y.part(part)); break;
            case 32: int image = upTo(1); check.due("image", x.image(image), y.image(image)); break;
            case 33: int from = upTo(1); check.due("from", x.from(from), y.from(from)); break;
            case 34: int status = upTo(2); check.due("status", x.status(status), y.status(status)); break;
            case 35: int count = upTo(7); check.due("count", x.count(count), y.count(count)); break;
            default: change(0); break;
        }
    }

    /** Half of the notes are true of some kind, so that what fits is told apart. */
    private void note(int i) {
        int h = upTo(30), t = upTo(2), w = upTo(20), b = upTo(9), l = upTo(6);
        boolean asTold = h >= 0 && h <= 30 && t >= 0 && t <= 2 && w >= 0 && w <= 20 && b >= 0 && b <= 9 && l >= 0 && l <= 6;
        int x7 = asTold && random.nextBoolean() ? PlainModel.near(random.nextInt(6), h, t, w, b, l) : upTo(60);
        check.due("note", x.note(i, h, t, w, b, l, x7), y.note(i, h, t, w, b, l, x7));
    }
}
