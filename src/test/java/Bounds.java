import java.util.ArrayList;
import java.util.List;
import java.util.function.Supplier;
import java.util.function.ToLongFunction;

/**
 * What the tests of the boundary cases share: a call just inside a boundary is taken, one just outside
 * is refused, and a refused one leaves an object just like a twin that was never asked.
 */
final class Bounds {
    static final int NONE = BiteChild.NONE, BAD = BiteChild.BAD, NO = BiteChild.NO, FULL = BiteChild.FULL;
    static final int TEN_LESS = -10;
    static final int MIN = Integer.MIN_VALUE, MAX = Integer.MAX_VALUE;

    private static final Check check = new Check();
    private static final Document document = new Document();
    private static String sentence = "";

    private Bounds() { }

    /** A call with one of its numbers left open. */
    interface NumberCall {
        long on(BiteChild x, int number);
    }

    // ---- which sentence is at hand

    static void term(String quote) {
        sentence = quote;
        check.holds("stands in the document's terms: " + quote, document.quoteOfTerms(quote));
    }

    static void promise(int number, String quote) {
        sentence = "promise " + number + ", " + quote;
        check.holds("stands in " + sentence, document.quoteOfPromise(number, quote));
    }

    static void introduction(String quote) {
        sentence = quote;
        check.holds("stands in the document's introduction: " + quote, document.quoteOfIntroduction(quote));
    }

    static void end() {
        check.due("promises of the document", document.promises(), 34);
        for (String words : document.unquoted()) {
            check.holds("a test for: " + words, false);
        }
        check.end();
    }

    // ---- what a call does

    static void due(String call, long got, long want) {
        check.due("[" + sentence + "] " + call, got, want);
    }

    static void holds(String what, boolean so) {
        check.holds("[" + sentence + "] " + what, so);
    }

    /** It answers so, and none of STATUS counts it. */
    static void taken(String call, Supplier<BiteChild> made, ToLongFunction<BiteChild> f, long want) {
        BiteChild x = made.get();
        long[] before = statusOf(x);
        due(call, f.applyAsLong(x), want);
        statusIs("behind " + call, x, before, NONE);
    }

    /** It answers so and changes nothing at all. */
    static void asked(String call, Supplier<BiteChild> made, ToLongFunction<BiteChild> f, long want) {
        refused(call, made, f, want, NONE);
    }

    static void bad(String call, Supplier<BiteChild> made, ToLongFunction<BiteChild> f) {
        refused(call, made, f, BAD, 0);
    }

    static void no(String call, Supplier<BiteChild> made, ToLongFunction<BiteChild> f) {
        refused(call, made, f, NO, 1);
    }

    static void full(String call, Supplier<BiteChild> made, ToLongFunction<BiteChild> f) {
        refused(call, made, f, FULL, 2);
    }

    /** It answers so, the told one of STATUS is one more, and nothing else is changed. */
    static void refused(String call, Supplier<BiteChild> made, ToLongFunction<BiteChild> f, long want, int reason) {
        BiteChild x = made.get();
        BiteChild twin = made.get();
        long[] before = statusOf(x);
        statusOf(twin);
        due(call, f.applyAsLong(x), want);
        statusIs("behind " + call, x, before, reason);
        alike("behind " + call, x, twin);
    }

    /** The numbers just outside least .. most, and those far outside, are refused as BAD. */
    static void outside(String call, Supplier<BiteChild> made, NumberCall f, int least, int most) {
        outside(call, made, f, least, most, BAD);
    }

    static void outside(String call, Supplier<BiteChild> made, NumberCall f, int least, int most, long want) {
        for (int number : new int[] {least - 1, most + 1, MIN, MAX}) {
            refused(call + " by " + number, made, x -> f.on(x, number), want, 0);
        }
    }

    // ---- what an object shows

    static long[] statusOf(BiteChild x) {
        return new long[] {x.status(0), x.status(1), x.status(2)};
    }

    static void statusIs(String when, BiteChild x, long[] before, int oneMore) {
        for (int what = 0; what < 3; what++) {
            due("status(" + what + ") " + when, x.status(what), before[what] + (what == oneMore ? 1 : 0));
        }
    }

    static void countsAre(String when, BiteChild x, int... want) {
        for (int what = 0; what < want.length; what++) {
            due("count(" + what + ") " + when, x.count(what), want[what]);
        }
    }

    /** Asks both for all that they keep, what may be undone, IMAGES and THE TEXT too: it uses them up. */
    static void alike(String when, BiteChild x, BiteChild twin) {
        List<Long> shown = allOf(x);
        List<Long> wanted = allOf(twin);
        due("how much there is " + when, shown.size(), wanted.size());
        for (int k = 0; k < Math.min(shown.size(), wanted.size()); k++) {
            due("part " + k + " of all that is kept " + when, shown.get(k), wanted.get(k));
        }
    }

    private static List<Long> allOf(BiteChild x) {
        List<Long> all = new ArrayList<>();
        gatherScene(x, all);
        for (int i = 0; i < 2; i++) {
            all.add((long) x.from(i));
            gatherScene(x, all);
        }
        all.add((long) x.read());
        all.add(x.digest());
        return all;
    }

    private static void gatherScene(BiteChild x, List<Long> all) {
        all.add(x.digest());
        int most = x.count(6);
        for (int k = 0; k < most; k++) {
            all.add((long) x.undo());
            all.add(x.digest());
        }
    }
}
