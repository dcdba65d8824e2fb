import java.math.BigInteger;

/** Boundary cases of what one is: NOTES, IS, LOOK, WHO, RINGS, EYES, WEEKS. */
final class OneBounds {
    private OneBounds() { }

    static void all() {
        notes();
        noteRefused();
        forget();
        is();
        isRefused();
        look();
        lookRefused();
        who();
        whoRefused();
        rings();
        ringsRefused();
        eyes();
        eyesRefused();
        weeks();
        weeksRefused();
    }

    private static void notes() {
        Bounds.term("NOTES 0 .. 5, as they come: one was x (0 .. 60) NEAR by h (0 .. 30), t (0 .. 2), w (0 .. 20), "
            + "b (0 .. 9), l (0 .. 6).");
        BiteChild x = Tables.biterAndCalm(9);
        for (int k = 1; k <= 6; k++) {
            Bounds.due("note " + k, x.note(k % 2, k, 0, 0, 0, 0, k), k);
            Bounds.due("count(5)", x.count(5), k);
        }
        Bounds.due("note 7", x.note(0, 0, 0, 0, 0, 0, 0), Bounds.FULL);
        int[][] ends = {{30, 0, 0, 0, 0, 0}, {0, 2, 0, 0, 0, 0}, {0, 0, 20, 0, 0, 0}, {0, 0, 0, 9, 0, 0}, {0, 0, 0, 0, 6, 0},
            {0, 0, 0, 0, 0, 60}, {0, 0, 0, 0, 0, 0}, {30, 2, 20, 9, 6, 60}};
        for (int[] n : ends) {
            Bounds.taken("note at its ends", Tables::busy, y -> y.note(2, n[0], n[1], n[2], n[3], n[4], n[5]), 3);
        }
    }

    private static void noteRefused() {
        Bounds.promise(21, "A NOTE: how many there are. BAD; FULL: 6.");
        Bounds.outside("note, i", Tables::fresh, (x, n) -> x.note(n, 0, 0, 0, 0, 0, 0), 0, -1);
        Bounds.outside("note, i", Tables::busy, (x, n) -> x.note(n, 0, 0, 0, 0, 0, 0), 0, 2);
        Bounds.outside("note, h", Tables::busy, (x, n) -> x.note(0, n, 0, 0, 0, 0, 0), 0, 30);
        Bounds.outside("note, t", Tables::busy, (x, n) -> x.note(0, 0, n, 0, 0, 0, 0), 0, 2);
        Bounds.outside("note, w", Tables::busy, (x, n) -> x.note(0, 0, 0, n, 0, 0, 0), 0, 20);
        Bounds.outside("note, b", Tables::busy, (x, n) -> x.note(0, 0, 0, 0, n, 0, 0), 0, 9);
        Bounds.outside("note, l", Tables::busy, (x, n) -> x.note(0, 0, 0, 0, 0, n, 0), 0, 6);
        Bounds.outside("note, x", Tables::busy, (x, n) -> x.note(0, 0, 0, 0, 0, 0, n), 0, 60);
        Bounds.taken("sixth note", OneBounds::fiveNotes, x -> x.note(1, 0, 0, 0, 0, 0, 0), 6);
        Bounds.full("seventh note", Tables::full, x -> x.note(0, 0, 0, 0, 0, 0, 0));
        Bounds.full("seventh note", Tables::full, x -> x.note(5, 30, 2, 20, 9, 6, 60));
        // A NOTE is none of what may be undone, and undoes nothing of it.
        BiteChild x = Tables.busy();
        int undone = x.count(6);
        x.note(0, 0, 0, 0, 0, 0, 0);
        Bounds.due("count(6) behind a NOTE", x.count(6), undone);
    }

    private static BiteChild fiveNotes() {
        BiteChild x = Tables.biterAndCalm(9);
        for (int k = 0; k < 5; k++) {
            x.note(0, k, 0, 0, 0, 0, k);
        }
        return x;
    }

    private static void forget() {
        Bounds.promise(22, "No NOTES: how many there were.");
        Bounds.asked("forget() of none", Tables::fresh, BiteChild::forget, 0);
        Bounds.taken("forget() of two", Tables::busy, BiteChild::forget, 2);
        Bounds.taken("forget() of six", Tables::full, BiteChild::forget, 6);
        BiteChild x = Tables.full();
        int undone = x.count(6);
        x.forget();
        Bounds.due("count(5)", x.count(5), 0);
        Bounds.due("count(6)", x.count(6), undone);
        for (int i = 0; i < 6; i++) {
            Bounds.due("is(" + i + ")", x.is(i), 63);
        }
        Bounds.due("forget() again", x.forget(), 0);
        Bounds.due("note behind forget", x.note(0, 0, 0, 0, 0, 0, 0), 1);
        Bounds.due("from(0)", x.from(0), 1);
        Bounds.due("NOTES of the IMAGE", x.count(5), 6);
    }

    private static void is() {
        Bounds.term("IS: KINDS (bits) by which all NOTES of it are so.");
        Bounds.asked("is(0) by none", () -> Tables.biterAndCalm(9), x -> x.is(0), 63);
        int[] near = {11, 15, 9, 14, 18, 4};
        for (int kind = 0; kind < 6; kind++) {
            int seen = near[kind];
            Bounds.asked("is(1) by " + seen, () -> noted(1, 10, 1, 5, 2, 1, seen), x -> x.is(1), 1 << kind);
            Bounds.asked("is(0) by another's", () -> noted(1, 10, 1, 5, 2, 1, seen), x -> x.is(0), 63);
        }
        Bounds.asked("is(1), no KIND", () -> noted(1, 10, 1, 5, 2, 1, 10), x -> x.is(1), 0);
        Bounds.asked("is(1), all but TEETHER", () -> noted(1, 0, 0, 20, 0, 0, 0), x -> x.is(1), 61);
        BiteChild x = noted(0, 10, 0, 0, 0, 0, 10);
        Bounds.due("is(0) by one", x.is(0), 1 + 4 + 8 + 16);
        x.note(0, 10, 0, 0, 1, 1, 13);
        Bounds.due("is(0) by two", x.is(0), 8);
        x.note(1, 0, 0, 0, 0, 0, 60);
        x.note(1, 0, 0, 0, 0, 0, 0);
        Bounds.due("is(0) by its own", x.is(0), 8);
        Bounds.due("is(1) by its own", x.is(1), 0);
        x.note(0, 10, 0, 0, 1, 1, 13);
        Bounds.due("is(0) by the same again", x.is(0), 8);
        x.note(0, 10, 0, 0, 1, 1, 12);
        Bounds.due("is(0) by the sixth", x.is(0), 0);
    }

    private static BiteChild noted(int i, int h, int t, int w, int b, int l, int near) {
        BiteChild x = Tables.biterAndCalm(9);
        x.note(i, h, t, w, b, l, near);
        return x;
    }

    private static void isRefused() {
        Bounds.promise(23, "IS, as bits. BAD.");
        Bounds.outside("is", Tables::fresh, BiteChild::is, 0, -1);
        Bounds.outside("is", Tables::busy, BiteChild::is, 0, 2);
        Bounds.outside("is", Tables::full, BiteChild::is, 0, 5);
    }

    /** One alone, with NOTES by which it may be a TALKER or CALM. */
    private static BiteChild talkerOrCalm(int words, int hunger) {
        BiteChild x = new BiteChild();
        x.child(Tables.CALM, 4, words, hunger);
        x.note(0, 0, 0, 2, 0, 0, 0);
        x.note(0, 20, 0, 20, 0, 0, 0);
        return x;
    }

    private static BiteChild alone(int words, int hunger) {
        BiteChild x = new BiteChild();
        x.child(Tables.PLAIN, 4, words, hunger);
        return x;
    }

    private static void look() {
        Bounds.term("LOOK: 100 l and 10 t and b (l, t, b 0 .. 2 each), with HUNGER, WORDS as they are, by which the most of "
            + "these KINDS that are alike NEAR are fewest; of like ones the least; none: no KIND.");
        // By LATELY 1 and BITTEN 1 PLAIN, TEETHER, COPIER, SORE are 4 apart; TALKER and CALM are too, by 5 WORDS.
        Bounds.asked("look(0) of all", () -> alone(5, 10), x -> x.look(0), 101);
        // Without WORDS a TALKER is just as PLAIN: two are alike whatever is; by LATELY 0 four are.
        Bounds.asked("look(0), two alike at best", () -> alone(1, 10), x -> x.look(0), 100);
        // PLAIN, TALKER, CALM are all 0 NEAR by 20 WORDS and no HUNGER; TIGHT is no help.
        Bounds.asked("look(0), three alike at best", () -> alone(20, 0), x -> x.look(0), 100);
        Bounds.asked("is(0), TALKER or CALM", () -> talkerOrCalm(20, 20), x -> x.is(0), 36);
        Bounds.asked("look(0), TIGHT 0 is enough", () -> talkerOrCalm(20, 21), x -> x.look(0), 0);
        Bounds.asked("look(0), TIGHT 1", () -> talkerOrCalm(20, 20), x -> x.look(0), 10);
        Bounds.asked("look(0), TIGHT 1 is enough", () -> talkerOrCalm(20, 18), x -> x.look(0), 10);
        Bounds.asked("look(0), TIGHT 2", () -> talkerOrCalm(20, 17), x -> x.look(0), 20);
        Bounds.asked("look(0), TIGHT 2 is enough", () -> talkerOrCalm(20, 15), x -> x.look(0), 20);
        Bounds.asked("look(0), never apart", () -> talkerOrCalm(20, 14), x -> x.look(0), 0);
        BiteChild x = alone(5, 10);
        x.note(0, 10, 0, 5, 0, 1, 11);
        Bounds.due("look(0) of COPIER, SORE", x.look(0), 1);
        x.note(0, 10, 0, 5, 1, 1, 13);
        Bounds.due("look(0) of SORE alone", x.look(0), 0);
        x.note(0, 10, 0, 5, 0, 0, 0);
        Bounds.due("look(0) of no KIND", x.look(0), Bounds.NONE);
        x.forget();
        x.note(0, 10, 0, 5, 0, 0, 8);
        Bounds.due("look(0) of PLAIN, COPIER, SORE", x.look(0), 101);
    }

    private static void lookRefused() {
        Bounds.promise(24, "LOOK. NONE. BAD.");
        Bounds.asked("look(1) of no KIND", () -> noted(1, 10, 1, 5, 2, 1, 10), x -> x.look(1), Bounds.NONE);
        Bounds.outside("look", Tables::fresh, BiteChild::look, 0, -1);
        Bounds.outside("look", Tables::busy, BiteChild::look, 0, 2);
        Bounds.outside("look", Tables::full, BiteChild::look, 0, 5);
    }

    private static BiteChild fourSitting() {
        BiteChild x = new BiteChild();
        x.child(Tables.CALM, 0, 20, 0);
        x.child(Tables.CALM, 7, 20, 0);
        x.child(Tables.CALM, 1, 20, 0);
        x.child(Tables.CALM, 4, 20, 0);
        return x;
    }

    private static void who() {
        Bounds.term("WHO: CHILDREN (bits) who would bite one, as they sit (however NEAR, GUARDED or not).");
        int[] want = {2 + 4, 0, 1, 0};
        for (int i = 0; i < 4; i++) {
            int one = i;
            Bounds.asked("who(" + i + ")", OneBounds::fourSitting, x -> x.who(one), want[i]);
        }
        // Five sit in a row: each would bite the next, the last the one ahead of it.
        BiteChild row = new BiteChild();
        for (int i = 0; i < 5; i++) {
            row.child(Tables.PLAIN, (i + 6) % 8, 0, 30);
        }
        int[] bitten = {0, 1, 2, 4 + 16, 8};
        for (int i = 0; i < 5; i++) {
            Bounds.due("who(" + i + ") in a row", row.who(i), bitten[i]);
        }
        BiteChild alone = new BiteChild();
        alone.child(Tables.PLAIN, 0, 0, 30);
        Bounds.due("who(0) alone", alone.who(0), 0);
    }

    private static void whoRefused() {
        Bounds.promise(25, "WHO, as bits. BAD.");
        Bounds.asked("who of the sixth", Tables::sixHungry, x -> x.who(5), 16);
        Bounds.asked("who of the fifth", Tables::sixHungry, x -> x.who(4), 8 + 32);
        Bounds.outside("who", Tables::fresh, BiteChild::who, 0, -1);
        Bounds.outside("who", Tables::busy, BiteChild::who, 0, 2);
        Bounds.outside("who", Tables::full, BiteChild::who, 0, 5);
    }

    private static void rings() {
        Bounds.term("RINGS: two unlike CHILDREN a, b each chew a ring or not: who chews BITES nobody in this MINUTE: "
            + "to each 0 less twice how often it is BITTEN in it, 1 more, if it does not chew, all others as told: pairs that "
            + "rest (bits: 0 both chew, 1 a does not, 2 b does not, 3 neither; neither would get more by doing otherwise).");
        // One's own ring is no help to oneself, so each gets more without it, whatever the other one does.
        for (int a = 0; a < 6; a++) {
            for (int b = 0; b < 6; b++) {
                int first = a, second = b;
                if (a != b) {
                    Bounds.due("rings(" + a + ", " + b + ")", Tables.sixHungry().rings(first, second), 8);
                }
            }
        }
        Bounds.asked("rings(0, 1), no BITES", () -> Tables.biterAndCalm(0), x -> x.rings(0, 1), 8);
        Bounds.asked("rings(1, 0), one BITE", () -> Tables.biterAndCalm(9), x -> x.rings(1, 0), 8);
    }

    private static void ringsRefused() {
        Bounds.promise(26, "RINGS, as bits. BAD: alike, too.");
        for (int i = 0; i < 6; i++) {
            int one = i;
            Bounds.bad("rings(" + i + ", " + i + ")", Tables::full, x -> x.rings(one, one));
        }
        Bounds.outside("rings, a", Tables::fresh, (x, n) -> x.rings(n, 1), 0, -1);
        Bounds.outside("rings, a", Tables::busy, (x, n) -> x.rings(n, 0), 0, 2);
        Bounds.outside("rings, b", Tables::busy, (x, n) -> x.rings(0, n), 0, 2);
        Bounds.outside("rings, both", Tables::full, (x, n) -> x.rings(n, n), 0, -1);
        Bounds.asked("rings of the last", Tables::full, x -> x.rings(5, 0), 8);
    }

    private static void fractionIs(String call, BiteChild x, long above, long below) {
        Bounds.due("above behind " + call, x.part(0), above);
        Bounds.due("below behind " + call, x.part(1), below);
    }

    private static void eyesAre(BiteChild x, int c, long above, long below) {
        Bounds.due("eyes(" + c + ")", x.eyes(c), 1);
        fractionIs("eyes(" + c + ")", x, above, below);
    }

    private static void eyes() {
        Bounds.term("EYES: by c of 10 (0 .. 10) each who would BITE in this MINUTE is seen, apart, and does not: "
            + "BITES in it, in the mean: THE FRACTION.");
        BiteChild one = Tables.biterAndCalm(9);
        int[][] ofOne = {{1, 1}, {9, 10}, {4, 5}, {7, 10}, {3, 5}, {1, 2}, {2, 5}, {3, 10}, {1, 5}, {1, 10}, {0, 1}};
        BiteChild five = Tables.sixHungry();
        int[][] ofFive = {{5, 1}, {9, 2}, {4, 1}, {7, 2}, {3, 1}, {5, 2}, {2, 1}, {3, 2}, {1, 1}, {1, 2}, {0, 1}};
        for (int c = 0; c <= 10; c++) {
            eyesAre(one, c, ofOne[c][0], ofOne[c][1]);
            eyesAre(five, c, ofFive[c][0], ofFive[c][1]);
            eyesAre(Tables.biterAndCalm(8), c, 0, 1);
            eyesAre(new BiteChild(), c, 0, 1);
        }
        // Three of them: 27 by 10.
        BiteChild three = Tables.sixHungry();
        three.woman(3);
        Bounds.due("who BITE", three.then(1, Bounds.NONE), 3);
        eyesAre(three, 1, 27, 10);
        eyesAre(three, 5, 3, 2);
        eyesAre(five, 1, 9, 2);
        five.woman(3);
        fractionIs("woman", five, 9, 2);
    }

    private static void eyesRefused() {
        Bounds.promise(27, "EYES are THE FRACTION: 1. BAD.");
        Bounds.taken("eyes(0)", Tables::fresh, x -> x.eyes(0), 1);
        Bounds.taken("eyes(10)", Tables::full, x -> x.eyes(10), 1);
        Bounds.outside("eyes", Tables::fresh, BiteChild::eyes, 0, 10);
        Bounds.outside("eyes", Tables::busy, BiteChild::eyes, 0, 10);
        Bounds.outside("eyes", Tables::full, BiteChild::eyes, 0, 10);
        // It changes nothing else.
        BiteChild x = Tables.busy();
        BiteChild twin = Tables.busy();
        x.eyes(0);
        twin.eyes(0);
        x.eyes(5);
        x.eyes(0);
        Bounds.alike("behind eyes", x, twin);
    }

    /** WEEKS by new objects whose children have just the HUNGER that the SEED tells, and 3 MINUTES of each. */
    private static long weeksOf(int seed, int n) {
        BigInteger number = BigInteger.valueOf(seed);
        long bites = 0;
        for (int k = 0; k < n; k++) {
            BiteChild x = new BiteChild();
            x.woman(7);
            for (int i = 0; i < 6; i++) {
                number = number.multiply(BigInteger.valueOf(1103515245)).add(BigInteger.valueOf(12345))
                    .mod(BigInteger.TWO.pow(31));
                x.child(i, i + 1, 3 * i, number.divide(BigInteger.valueOf(65536)).mod(BigInteger.valueOf(31)).intValue());
            }
            bites += x.minute(3);
        }
        return bites;
    }

    private static BiteChild sixOfAllKinds() {
        BiteChild x = new BiteChild();
        x.woman(7);
        for (int i = 0; i < 6; i++) {
            x.child(i, i + 1, 3 * i, 9);
        }
        return x;
    }

    private static void weeks() {
        Bounds.term("WEEKS by a SEED (0 .. 999999), n (0 .. 60): X is SEED at first; each time for each CHILD in order X becomes "
            + "X times 1103515245 and 12345, by 2147483648 what is left over; X by 65536 (cut), by 31 left over, is its HUNGER; "
            + "all else as now; then 3 MINUTES go by: BITES in all of them together.");
        int[][] ends = {{0, 0}, {0, 1}, {0, 60}, {1, 1}, {1, 60}, {999999, 0}, {999999, 1}, {999999, 60}, {999998, 59}, {65536, 2}};
        for (int[] e : ends) {
            Bounds.asked("weeks(" + e[0] + ", " + e[1] + ")", OneBounds::sixOfAllKinds, x -> x.weeks(e[0], e[1]), weeksOf(e[0], e[1]));
        }
        Bounds.asked("weeks(0, 0)", OneBounds::sixOfAllKinds, x -> x.weeks(0, 0), 0);
        Bounds.asked("weeks with nobody", Tables::fresh, x -> x.weeks(999999, 60), 0);
        Bounds.asked("weeks of one alone", () -> alone(0, 30), x -> x.weeks(999999, 60), 0);
        allElseAsNow();
    }

    /** LATELY, BITTEN, SEATS, THE WOMAN are as now each time; those up to now are none of WEEKS. */
    private static void allElseAsNow() {
        BiteChild x = Tables.biterAndCalm(9);
        x.minute(1);
        BiteChild first = Tables.biterAndCalm(9);
        Bounds.due("weeks without those up to now", x.weeks(7, 20), first.weeks(7, 20));
        x.woman(4);
        Bounds.due("weeks GUARDED", x.weeks(7, 60), 0);
        // From SEED 41 the second X tells a HUNGER of 6: a COPIER bites by that if there was a BITE LATELY.
        BiteChild copier = Tables.pairTurned(Tables.COPIER, 0, 30);
        Bounds.due("weeks(41, 1) by LATELY 0", copier.weeks(41, 1), 0);
        copier.minute(1);
        Bounds.due("weeks(41, 1) by LATELY 1", copier.weeks(41, 1), 1);
    }

    private static void weeksRefused() {
        Bounds.promise(28, "WEEKS. BAD.");
        Bounds.outside("weeks, SEED", Tables::fresh, (x, n) -> x.weeks(n, 0), 0, 999999);
        Bounds.outside("weeks, SEED", Tables::busy, (x, n) -> x.weeks(n, 60), 0, 999999);
        Bounds.outside("weeks, n", Tables::fresh, (x, n) -> x.weeks(0, n), 0, 60);
        Bounds.outside("weeks, n", Tables::full, (x, n) -> x.weeks(999999, n), 0, 60);
    }
}
