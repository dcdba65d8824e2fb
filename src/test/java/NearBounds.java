/** Boundary cases of TIGHT, of the KINDS, of whom one would bite. */
final class NearBounds {
    private NearBounds() { }

    static void all() {
        tight();
        byWhatOneIsNear();
        plain();
        teether();
        talker();
        copier();
        sore();
        calm();
        whom();
        nowOfOne();
        nowRefused();
    }

    private static void tight() {
        Bounds.term("TIGHT of one: how many of the two SEATS beside it are taken.");
        for (int seat = 0; seat < 8; seat++) {
            BiteChild x = new BiteChild();
            x.child(Tables.PLAIN, seat, 0, 0);
            Bounds.due("TIGHT alone on " + seat, x.of(0, 5), 0);
            x.child(Tables.PLAIN, Tables.NEXT[Tables.NEXT[seat]], 0, 0);
            x.child(Tables.PLAIN, Tables.AHEAD[Tables.AHEAD[seat]], 0, 0);
            Bounds.due("TIGHT with some two SEATS away from " + seat, x.of(0, 5), 0);
            x.child(Tables.PLAIN, Tables.AHEAD[seat], 0, 0);
            Bounds.due("TIGHT with one ahead of " + seat, x.of(0, 5), 1);
            x.child(Tables.PLAIN, Tables.NEXT[seat], 0, 0);
            Bounds.due("TIGHT with both beside " + seat, x.of(0, 5), 2);
            x.child(Tables.PLAIN, (seat + 4) % 8, 0, 0);
            Bounds.due("TIGHT with one across from " + seat, x.of(0, 5), 2);
        }
    }

    /** One on 4, with as many beside it as told. */
    private static BiteChild sitting(int kind, int hunger, int tight, int words) {
        BiteChild x = new BiteChild();
        x.child(kind, 4, words, hunger);
        for (int k = 0; k < tight; k++) {
            x.child(Tables.CALM, k == 0 ? 5 : 3, 20, 0);
        }
        return x;
    }

    private static void nearIs(int want, int kind, int hunger, int tight, int words) {
        String one = "KIND " + kind + ", h " + hunger + ", t " + tight + ", w " + words;
        Bounds.due("now(0, 0) of " + one, sitting(kind, hunger, tight, words).now(0, 0), want);
        fits(want, kind, hunger, tight, words, 0, 0);
    }

    /** A NOTE of just as NEAR leaves the KIND among those that one is; a NOTE of one more or less does not. */
    private static void fits(int want, int kind, int h, int t, int w, int b, int l) {
        for (int near = Math.max(0, want - 1); near <= Math.min(60, want + 1); near++) {
            BiteChild x = Tables.biterAndCalm(0);
            Bounds.due("a NOTE", x.note(1, h, t, w, b, l, near), 1);
            Bounds.due("KIND " + kind + " by h " + h + ", t " + t + ", w " + w + ", b " + b + ", l " + l + ", x " + near,
                x.is(1) >> kind & 1, near == want ? 1 : 0);
        }
    }

    private static void byWhatOneIsNear() {
        Bounds.term("KINDS, each under the one told, say how NEAR biting one is, by HUNGER h, TIGHT t, WORDS w, "
            + "by how often it was BITTEN b, by how many BITES there were LATELY l:");
        // Child 1 is bitten in the first MINUTE and guarded: HUNGER 12, TIGHT 2, WORDS 9, BITTEN 1, LATELY 1.
        int[] want = {14, 18, 10, 17, 19, 5};
        for (int kind = 0; kind < 6; kind++) {
            BiteChild x = new BiteChild();
            x.child(Tables.PLAIN, 3, 0, 30);
            x.child(kind, 4, 9, 11);
            x.child(Tables.CALM, 5, 20, 0);
            x.woman(5);
            Bounds.due("minute(1)", x.minute(1), 1);
            Bounds.due("NEAR of KIND " + kind, x.now(1, 0), want[kind]);
        }
    }

    private static void plain() {
        Bounds.term("0 PLAIN: h and 3 t, less half (cut) of w, 0 at least.");
        nearIs(0, Tables.PLAIN, 0, 0, 0);
        nearIs(30, Tables.PLAIN, 30, 0, 0);
        nearIs(33, Tables.PLAIN, 30, 1, 0);
        nearIs(36, Tables.PLAIN, 30, 2, 0);
        nearIs(5, Tables.PLAIN, 5, 0, 1);
        nearIs(4, Tables.PLAIN, 5, 0, 2);
        nearIs(4, Tables.PLAIN, 5, 0, 3);
        nearIs(1, Tables.PLAIN, 11, 0, 20);
        nearIs(0, Tables.PLAIN, 10, 0, 20);
        nearIs(0, Tables.PLAIN, 9, 0, 20);
        nearIs(0, Tables.PLAIN, 0, 0, 20);
        nearIs(1, Tables.PLAIN, 10, 0, 19);
        fits(7, Tables.PLAIN, 7, 0, 0, 9, 6);
    }

    private static void teether() {
        Bounds.term("1 TEETHER (under PLAIN): 4 more than PLAIN.");
        nearIs(4, Tables.TEETHER, 0, 0, 0);
        nearIs(5, Tables.TEETHER, 11, 0, 20);
        nearIs(4, Tables.TEETHER, 10, 0, 20);
        nearIs(4, Tables.TEETHER, 0, 0, 20);
        nearIs(40, Tables.TEETHER, 30, 2, 0);
    }

    private static void talker() {
        Bounds.term("2 TALKER (under PLAIN): PLAIN, less half (cut) of w again, 0 at least.");
        nearIs(10, Tables.TALKER, 10, 0, 1);
        nearIs(8, Tables.TALKER, 10, 0, 2);
        nearIs(8, Tables.TALKER, 10, 0, 3);
        nearIs(6, Tables.TALKER, 10, 0, 5);
        nearIs(1, Tables.TALKER, 5, 0, 4);
        nearIs(0, Tables.TALKER, 4, 0, 4);
        nearIs(0, Tables.TALKER, 3, 0, 4);
        nearIs(0, Tables.TALKER, 0, 0, 20);
        nearIs(16, Tables.TALKER, 30, 2, 20);
    }

    private static void copier() {
        Bounds.term("3 COPIER (under PLAIN): PLAIN and 3 l.");
        nearIs(8, Tables.COPIER, 10, 0, 5);
        fits(8, Tables.COPIER, 10, 0, 5, 9, 0);
        fits(11, Tables.COPIER, 10, 0, 5, 9, 1);
        fits(26, Tables.COPIER, 10, 0, 5, 9, 6);
        // Less than 0 is no less than 0 ahead of what LATELY adds.
        fits(3, Tables.COPIER, 0, 0, 20, 0, 1);
        fits(18, Tables.COPIER, 9, 0, 20, 0, 6);
    }

    private static void sore() {
        Bounds.term("4 SORE (under COPIER): COPIER and 2 b.");
        nearIs(8, Tables.SORE, 10, 0, 5);
        fits(10, Tables.SORE, 10, 0, 5, 1, 0);
        fits(13, Tables.SORE, 10, 0, 5, 1, 1);
        fits(26, Tables.SORE, 10, 0, 5, 9, 0);
        fits(2, Tables.SORE, 0, 0, 20, 1, 0);
        fits(60, Tables.SORE, 30, 2, 0, 3, 6);
    }

    private static void calm() {
        Bounds.term("5 CALM (under TALKER): half (cut) of TALKER.");
        nearIs(0, Tables.CALM, 0, 0, 0);
        nearIs(0, Tables.CALM, 1, 0, 0);
        nearIs(1, Tables.CALM, 2, 0, 0);
        nearIs(1, Tables.CALM, 3, 0, 0);
        nearIs(3, Tables.CALM, 10, 0, 5);
        nearIs(0, Tables.CALM, 0, 0, 20);
        nearIs(18, Tables.CALM, 30, 2, 0);
        nearIs(8, Tables.CALM, 30, 2, 20);
        fits(5, Tables.CALM, 10, 0, 0, 9, 6);
    }

    private static void whom() {
        Bounds.term("Whom one would bite: the one on the next SEAT, if it is taken, else the one on the SEAT ahead, "
            + "if that is; nobody else.");
        for (int seat = 0; seat < 8; seat++) {
            BiteChild x = new BiteChild();
            x.child(Tables.PLAIN, seat, 0, 0);
            Bounds.due("whom, alone on " + seat, x.now(0, 1), Bounds.NONE);
            x.child(Tables.PLAIN, (seat + 2) % 8, 0, 0);
            x.child(Tables.PLAIN, (seat + 6) % 8, 0, 0);
            Bounds.due("whom, with some two SEATS away from " + seat, x.now(0, 1), Bounds.NONE);
            x.child(Tables.PLAIN, Tables.AHEAD[seat], 0, 0);
            Bounds.due("whom, one ahead of " + seat, x.now(0, 1), 3);
            x.child(Tables.PLAIN, Tables.NEXT[seat], 0, 0);
            Bounds.due("whom, both beside " + seat, x.now(0, 1), 4);
            x.moves(3, (seat + 4) % 8);
            Bounds.due("whom, one next to " + seat, x.now(0, 1), 4);
        }
    }

    private static void nowOfOne() {
        Bounds.term("NEAR now; whom one would bite (none); whether it BITES in this MINUTE.");
        Bounds.asked("NEAR of 11", () -> Tables.biterAndCalm(8), x -> x.now(0, 0), 11);
        Bounds.asked("BITES by 11", () -> Tables.biterAndCalm(8), x -> x.now(0, 2), 0);
        Bounds.asked("NEAR of 12", () -> Tables.biterAndCalm(9), x -> x.now(0, 0), 12);
        Bounds.asked("BITES by 12", () -> Tables.biterAndCalm(9), x -> x.now(0, 2), 1);
        Bounds.asked("whom", () -> Tables.biterAndCalm(8), x -> x.now(0, 1), 1);
        Bounds.asked("whom, ahead", () -> Tables.biterAndCalm(8), x -> x.now(1, 1), 0);
        Bounds.asked("whom, none", () -> sitting(Tables.PLAIN, 30, 0, 0), x -> x.now(0, 1), Bounds.NONE);
        Bounds.asked("BITES with nobody beside", () -> sitting(Tables.PLAIN, 30, 0, 0), x -> x.now(0, 2), 0);
        BiteChild guarded = Tables.biterAndCalm(30);
        guarded.woman(5);
        Bounds.due("NEAR, GUARDED", guarded.now(0, 0), 33);
        Bounds.due("whom, GUARDED", guarded.now(0, 1), 1);
        Bounds.due("BITES, GUARDED", guarded.now(0, 2), 0);
    }

    private static void nowRefused() {
        Bounds.promise(13, "Of a CHILD now: NEAR (0), whom it would bite (1; NONE), whether it BITES (2; 1, 0). BAD: -10.");
        Bounds.outside("now what", Tables::busy, (x, n) -> x.now(0, n), 0, 2, Bounds.TEN_LESS);
        Bounds.outside("now of a CHILD", Tables::busy, (x, n) -> x.now(n, 0), 0, 2, Bounds.TEN_LESS);
        Bounds.outside("now of a CHILD", Tables::full, (x, n) -> x.now(n, 1), 0, 5, Bounds.TEN_LESS);
        Bounds.refused("now with nobody", Tables::fresh, x -> x.now(0, 2), Bounds.TEN_LESS, 0);
        Bounds.asked("now of the last", Tables::busy, x -> x.now(2, 1), Bounds.NONE);
        BiteChild six = Tables.sixHungry();
        Bounds.due("now(0, 2), GUARDED", six.now(0, 2), 0);
        Bounds.due("now(5, 2)", six.now(5, 2), 1);
        Bounds.due("now(5, 1)", six.now(5, 1), 4);
    }
}
