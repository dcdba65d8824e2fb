/** Boundary cases of what comes: THEN, QUIET, STAND, CARROT, SEATED, WORDS, SAY. */
final class ComingBounds {
    private ComingBounds() { }

    static void all() {
        nothingIsChanged();
        beyond999();
        then();
        thenRefused();
        quiet();
        stand();
        standRefused();
        carrot();
        helps();
        seated();
        seatedByAllWays();
        seatedRefused();
        words();
        wordsRefused();
        say();
        sayNone();
    }

    private static void nothingIsChanged() {
        Bounds.term("======== 2 (Nothing is changed by these;");
        changesNothing(Tables.busy(), Tables.busy());
        changesNothing(Tables.full(), Tables.full());
    }

    private static void changesNothing(BiteChild x, BiteChild twin) {
        long[] before = Bounds.statusOf(x);
        x.then(60, Bounds.NONE);
        x.then(60, 0);
        x.quiet();
        x.stand(60, 0);
        x.stand(1, 1);
        x.helps();
        x.seated(Bounds.NONE);
        x.seated(2);
        x.words(0);
        x.say();
        x.is(0);
        x.look(1);
        x.who(2);
        x.rings(0, 2);
        x.weeks(999999, 60);
        x.now(0, 0);
        x.now(0, 1);
        x.now(0, 2);
        Bounds.statusIs("behind all questions", x, before, Bounds.NONE);
        Bounds.alike("behind all questions", x, twin);
    }

    /** MINUTE 999, at which two children come. */
    private static BiteChild late(int hunger) {
        BiteChild x = new BiteChild();
        Tables.passTo(x, 999);
        x.child(Tables.PLAIN, 4, 0, hunger);
        x.child(Tables.CALM, 5, 20, 0);
        return x;
    }

    private static BiteChild lateTurned() {
        BiteChild x = new BiteChild();
        Tables.passTo(x, 999);
        x.child(Tables.CALM, 5, 20, 0);
        x.child(Tables.PLAIN, 4, 0, 2);
        return x;
    }

    private static void beyond999() {
        Bounds.term("MINUTES go beyond 999 in them.)");
        Bounds.asked("then(60, NONE)", () -> late(9), x -> x.then(60, Bounds.NONE), 8);
        Bounds.asked("then(60, 1)", () -> late(9), x -> x.then(60, 1), 8);
        Bounds.asked("quiet()", () -> late(0), BiteChild::quiet, 10);
        Bounds.asked("stand(10, 0)", () -> late(0), x -> x.stand(10, 0), 3);
        Bounds.asked("stand(9, 0)", () -> late(0), x -> x.stand(9, 0), 0);
        Bounds.asked("helps()", () -> late(0), BiteChild::helps, 3);
        Bounds.asked("say()", ComingBounds::lateTurned, BiteChild::say, 1);
        Bounds.asked("weeks(7, 20)", () -> late(0), x -> x.weeks(7, 20), Tables.biterAndCalm(0).weeks(7, 20));
        Bounds.holds("weeks of some BITES", Tables.biterAndCalm(0).weeks(7, 20) > 0);
        Bounds.due("minute(60) of the same", late(9).minute(60), 0);
    }

    private static BiteChild bitten() {
        BiteChild x = Tables.biterAndCalm(9);
        x.minute(1);
        return x;
    }

    private static void then() {
        Bounds.term("THEN: BITES in all (those up to now, too) behind m (0 .. 60) MINUTES; how often one was BITTEN then.");
        int[] minutes = {0, 1, 8, 9, 56, 57, 60};
        int[] bites = {0, 1, 1, 2, 7, 8, 8};
        for (int k = 0; k < minutes.length; k++) {
            int m = minutes[k];
            Bounds.asked("then(" + m + ", NONE)", () -> Tables.biterAndCalm(9), x -> x.then(m, Bounds.NONE), bites[k]);
            Bounds.asked("then(" + m + ", 1)", () -> Tables.biterAndCalm(9), x -> x.then(m, 1), bites[k]);
            Bounds.asked("then(" + m + ", 0)", () -> Tables.biterAndCalm(9), x -> x.then(m, 0), 0);
        }
        Bounds.asked("then(0, NONE), those up to now", ComingBounds::bitten, x -> x.then(0, Bounds.NONE), 1);
        Bounds.asked("then(0, 1), those up to now", ComingBounds::bitten, x -> x.then(0, 1), 1);
        Bounds.asked("then(8, NONE), those up to now", ComingBounds::bitten, x -> x.then(8, Bounds.NONE), 2);
        // It bites in 4, 12, 20 .. 52, 60.
        Bounds.asked("then(59, NONE)", () -> Tables.biterAndCalm(6), x -> x.then(59, Bounds.NONE), 7);
        Bounds.asked("then(60, NONE)", () -> Tables.biterAndCalm(6), x -> x.then(60, Bounds.NONE), 8);
    }

    private static void thenRefused() {
        Bounds.promise(14, "THEN: BITES (i = NONE), how often one is BITTEN. BAD.");
        Bounds.asked("then(0, NONE) with nobody", Tables::fresh, x -> x.then(0, Bounds.NONE), 0);
        Bounds.asked("then(60, NONE) with nobody", Tables::fresh, x -> x.then(60, Bounds.NONE), 0);
        Bounds.outside("then, MINUTES", Tables::fresh, (x, n) -> x.then(n, Bounds.NONE), 0, 60);
        Bounds.outside("then, MINUTES", Tables::busy, (x, n) -> x.then(n, 0), 0, 60);
        Bounds.outside("then, CHILD", Tables::fresh, (x, n) -> x.then(0, n), Bounds.NONE, -1);
        Bounds.outside("then, CHILD", Tables::busy, (x, n) -> x.then(60, n), Bounds.NONE, 2);
        Bounds.outside("then, CHILD", Tables::full, (x, n) -> x.then(1, n), Bounds.NONE, 5);
    }

    /** A CALM one of HUNGER 0 on 4 between two who never bite. */
    private static BiteChild calmBetween(int words) {
        BiteChild x = new BiteChild();
        x.child(Tables.CALM, 4, words, 0);
        x.child(Tables.CALM, 3, 20, 0);
        x.child(Tables.CALM, 5, 20, 0);
        return x;
    }

    private static void quiet() {
        Bounds.term("QUIET: in the how manieth MINUTE from now (1 .. 60; 1: this one) the next BITE comes; none.");
        Bounds.promise(15, "QUIET. NONE.");
        Bounds.asked("quiet(), this one", () -> Tables.biterAndCalm(9), BiteChild::quiet, 1);
        Bounds.asked("quiet(), the next", () -> Tables.biterAndCalm(8), BiteChild::quiet, 2);
        Bounds.asked("quiet() from 0", () -> Tables.biterAndCalm(0), BiteChild::quiet, 10);
        Bounds.asked("quiet() behind a BITE", ComingBounds::bitten, BiteChild::quiet, 8);
        // By 12 WORDS and TIGHT 2 it is 12 NEAR by a HUNGER of 30, no sooner: nothing comes later than that.
        Bounds.asked("quiet(), the latest", () -> calmBetween(12), BiteChild::quiet, 31);
        Bounds.asked("quiet(), the latest, half cut", () -> calmBetween(13), BiteChild::quiet, 31);
        Bounds.asked("quiet(), none", () -> calmBetween(14), BiteChild::quiet, Bounds.NONE);
        Bounds.asked("quiet() with nobody", Tables::fresh, BiteChild::quiet, Bounds.NONE);
    }

    /** Hungry ones on the told SEATS, with a calm one on each of the others told. */
    private static BiteChild hungryOn(int[] hungry, int... calm) {
        BiteChild x = new BiteChild();
        for (int seat : hungry) {
            x.child(Tables.PLAIN, seat, 0, 30);
        }
        for (int seat : calm) {
            x.child(Tables.CALM, seat, 20, 0);
        }
        return x;
    }

    private static void standIs(int seat, int bites, int m, BiteChild x) {
        Bounds.due("stand(" + m + ", 0)", x.stand(m, 0), seat);
        Bounds.due("stand(" + m + ", 1)", x.stand(m, 1), bites);
    }

    private static void stand() {
        Bounds.term("STAND: the SEAT behind which she should stand so that there are fewest BITES in m (1 .. 60) MINUTES; "
            + "of like ones the least; how many.");
        standIs(0, 0, 1, Tables.biterAndCalm(8));
        standIs(3, 0, 1, Tables.biterAndCalm(9));
        standIs(0, 0, 9, Tables.biterAndCalm(0));
        standIs(3, 0, 10, Tables.biterAndCalm(0));
        standIs(3, 0, 60, Tables.biterAndCalm(0));
        standIs(0, 0, 60, new BiteChild());
        standIs(0, 0, 1, hungryOn(new int[] {7}, 6));
        standIs(7, 0, 1, hungryOn(new int[] {6, 0}, 7));
        standIs(0, 0, 1, hungryOn(new int[] {7, 1}, 0));
        standIs(5, 0, 1, hungryOn(new int[] {6}, 7));
        standIs(0, 2, 1, hungryOn(new int[] {7, 0, 3, 4}));
        // Two on 1, 2 and two on 5, 6: the first pair is guarded from 1 and 2, the second from 5 and 6.
        standIs(1, 2, 1, hungryOn(new int[] {5, 6, 1, 2}));
        BiteChild far = hungryOn(new int[] {6, 0}, 7);
        far.stand(1, 0);
        Bounds.due("she stays", far.count(4), 0);
        standIs(3, 0, 8, bitten());
        // More than one BITE in each MINUTE wherever she stands.
        int[] bites = new int[8];
        int best = 0;
        for (int seat = 0; seat < 8; seat++) {
            BiteChild x = sixOf(Tables.SORE, Bounds.NONE);
            x.woman(seat);
            bites[seat] = x.minute(60);
            best = bites[seat] < bites[best] ? seat : best;
        }
        Bounds.holds("more than one in each MINUTE", bites[best] > 67);
        standIs(best, bites[best], 60, sixOf(Tables.SORE, Bounds.NONE));
    }

    /** One of them may have ten WORDS, the others have none. */
    private static BiteChild sixOf(int kind, int talking) {
        BiteChild x = new BiteChild();
        for (int i = 0; i < 6; i++) {
            x.child(kind, i, i == talking ? 10 : 0, 30 - i);
        }
        return x;
    }

    private static void standRefused() {
        Bounds.promise(16, "STAND: the SEAT (0), how many (1). BAD.");
        Bounds.asked("stand(1, 1)", Tables::fresh, x -> x.stand(1, 1), 0);
        Bounds.asked("stand(60, 1)", Tables::sixHungry, x -> x.stand(60, 1), sixFewest());
        Bounds.outside("stand, MINUTES", Tables::fresh, (x, n) -> x.stand(n, 0), 1, 60);
        Bounds.outside("stand, MINUTES", Tables::busy, (x, n) -> x.stand(n, 1), 1, 60);
        Bounds.outside("stand, what", Tables::busy, (x, n) -> x.stand(1, n), 0, 1);
        Bounds.outside("stand, what", Tables::full, (x, n) -> x.stand(60, n), 0, 1);
    }

    /** By letting the 60 MINUTES go by with her behind each SEAT. */
    private static int sixFewest() {
        int fewest = Bounds.MAX;
        for (int seat = 0; seat < 8; seat++) {
            BiteChild x = Tables.sixHungry();
            x.woman(seat);
            fewest = Math.min(fewest, x.minute(60));
        }
        return fewest;
    }

    private static void carrot() {
        Bounds.term("CARROT: the CHILD and how many MINUTES (0 .. 9) go by before it gets one, by which there are fewest "
            + "BITES in the next 20 MINUTES: 10 times the one and the other; of like ones the least; none: by none fewer.");
        // It bites in MINUTES 1, 9, 17; a carrot at once leaves 10, 18.
        Bounds.asked("helps(), at once", () -> Tables.biterAndCalm(9), BiteChild::helps, 0);
        // It bites in 10 and 18; one behind 2 MINUTES leaves 12 and 20, one behind 3 leaves 13 (and 21).
        Bounds.asked("helps(), behind 3", () -> Tables.biterAndCalm(0), BiteChild::helps, 3);
        Bounds.asked("helps(), behind 3, of 1", () -> Tables.pairTurned(Tables.PLAIN, 0, 0), BiteChild::helps, 13);
        // By 4 WORDS it bites by a HUNGER of 11, in 12 and 20; behind 8 MINUTES leaves 20, behind 9 none.
        Bounds.asked("helps(), behind 9", () -> Tables.pair(Tables.PLAIN, 4, 0), BiteChild::helps, 9);
        Bounds.asked("helps(), behind 9, of 1", () -> Tables.pairTurned(Tables.PLAIN, 4, 0), BiteChild::helps, 19);
        // By 2 WORDS in 11 and 19: only behind 10 MINUTES none would be left; behind 2 to 9 it is one.
        Bounds.asked("helps(), 10 is too late", () -> Tables.pair(Tables.PLAIN, 2, 0), BiteChild::helps, 2);
        Bounds.asked("helps() with nobody", Tables::fresh, BiteChild::helps, Bounds.NONE);
        Bounds.asked("helps(), all is quiet", ComingBounds::guardedPair, BiteChild::helps, Bounds.NONE);
        Bounds.asked("helps(), of the last", ComingBounds::lastIsHungry, BiteChild::helps, 50);
    }

    private static void helps() {
        Bounds.promise(17, "CARROT. NONE.");
        // A CALM one bites by a HUNGER of 21: from 2 in the 20th MINUTE, from 1 in the 21st.
        Bounds.asked("helps(), the 20th MINUTE", () -> Tables.pair(Tables.CALM, 0, 2), BiteChild::helps, 0);
        Bounds.asked("helps(), not the 21st", () -> Tables.pair(Tables.CALM, 0, 1), BiteChild::helps, Bounds.NONE);
        Bounds.due("the BITE of the 21st", Tables.pair(Tables.CALM, 0, 1).quiet(), 21);
        BiteChild x = Tables.biterAndCalm(0);
        Bounds.due("helps() of a carrot that is given then", x.helps(), 3);
        x.minute(3);
        x.carrot(0);
        Bounds.due("BITES in the other 17 MINUTES", x.minute(17), 1);
    }

    private static BiteChild guardedPair() {
        BiteChild x = Tables.biterAndCalm(9);
        x.woman(4);
        return x;
    }

    private static BiteChild lastIsHungry() {
        BiteChild x = new BiteChild();
        for (int i = 0; i < 5; i++) {
            x.child(Tables.CALM, i + 1, 20, 0);
        }
        x.child(Tables.PLAIN, 6, 0, 9);
        return x;
    }

    private static void seatsAre(int fewest, BiteChild x, int... seats) {
        Bounds.due("seated(NONE)", x.seated(Bounds.NONE), fewest);
        for (int i = 0; i < seats.length; i++) {
            Bounds.due("seated(" + i + ")", x.seated(i), seats[i]);
        }
    }

    private static void seated() {
        Bounds.term("SEATED: all CHILDREN seated anew (SEATS 0 .. 7, one each), so that fewest BITE in this MINUTE: "
            + "how many; the SEAT of one in the first such way (rising).");
        seatsAre(0, Tables.biterAndCalm(9), 0, 1);
        BiteChild apart = Tables.pairTurned(Tables.PLAIN, 0, 30);
        apart.woman(4);
        seatsAre(0, apart, 0, 2);
        seatsAre(2, Tables.sixHungry(), 0, 1, 2, 3, 5, 7);
        // GUARDED are 2, 3, 4; the one on 0 has nobody beside it.
        BiteChild four = hungryOn(new int[] {0, 1, 2, 3});
        four.woman(3);
        seatsAre(0, four, 0, 2, 3, 4);
        byLately();
    }

    /** LATELY counts: with 1 the COPIER would bite beside the others on 2, so it sits on 3. */
    private static void byLately() {
        BiteChild x = new BiteChild();
        x.child(Tables.PLAIN, 4, 0, 9);
        x.child(Tables.CALM, 5, 20, 0);
        x.child(Tables.COPIER, 2, 0, 5);
        x.minute(1);
        x.woman(4);
        seatsAre(0, x, 0, 1, 3);
        x.minute(1);
        x.carrot(2);
        seatsAre(0, x, 0, 1, 2);
    }

    /** KIND, WORDS, HUNGER of each; each way in which they may sit is sat down in a new object. */
    private static void seatedByAllWays() {
        int[][][] few = {{{0, 0, 30}}, {{1, 0, 9}, {2, 4, 20}}, {{0, 0, 9}, {0, 0, 6}, {1, 3, 5}},
            {{0, 0, 30}, {3, 2, 8}, {0, 1, 30}, {5, 0, 21}}};
        for (int hers = 0; hers < 8; hers++) {
            for (int[][] children : few) {
                seatedAsByAllWays(children, hers);
            }
        }
        seatedAsByAllWays(new int[][] {{0, 0, 6}, {0, 0, 9}, {2, 2, 11}, {4, 1, 7}, {1, 0, 30}}, 5);
        seatedAsByAllWays(new int[][] {{5, 2, 30}, {1, 1, 23}, {2, 4, 23}, {0, 4, 11}, {0, 2, 15}, {2, 5, 4}}, 6);
        seatedAsByAllWays(new int[][] {{1, 1, 14}, {1, 4, 29}, {4, 3, 8}, {4, 1, 23}, {0, 5, 19}, {0, 0, 14}}, 3);
        seatedAsByAllWays(new int[][] {{5, 4, 0}, {0, 4, 9}, {5, 3, 11}, {1, 1, 8}, {2, 2, 29}, {3, 4, 16}}, 0);
    }

    private static void seatedAsByAllWays(int[][] children, int hers) {
        int[] fewest = {Bounds.MAX};
        int[] way = new int[children.length];
        tryWays(children, hers, new int[children.length], 0, fewest, way);
        int[] now = new int[children.length];
        for (int i = 0; i < now.length; i++) {
            now[i] = 7 - i;
        }
        seatsAre(fewest[0], sitting(children, hers, now), way);
    }

    private static BiteChild sitting(int[][] children, int hers, int[] seats) {
        BiteChild x = new BiteChild();
        x.table(hers);
        for (int i = 0; i < children.length; i++) {
            x.child(children[i][0], seats[i], children[i][1], children[i][2]);
        }
        return x;
    }

    private static void tryWays(int[][] children, int hers, int[] seats, int placed, int[] fewest, int[] way) {
        if (placed == children.length) {
            int bites = sitting(children, hers, seats).minute(1);
            if (bites < fewest[0]) {
                fewest[0] = bites;
                System.arraycopy(seats, 0, way, 0, placed);
            }
            return;
        }
        for (int seat = 0; seat < 8; seat++) {
            boolean free = true;
            for (int i = 0; i < placed; i++) {
                free &= seats[i] != seat;
            }
            if (free) {
                seats[placed] = seat;
                tryWays(children, hers, seats, placed + 1, fewest, way);
            }
        }
    }

    private static void seatedRefused() {
        Bounds.promise(18, "SEATED: how many (i = NONE; 0: nobody is there), the SEAT of one. BAD: -10.");
        Bounds.asked("seated(NONE) with nobody", Tables::fresh, x -> x.seated(Bounds.NONE), 0);
        Bounds.asked("seated(5)", Tables::sixHungry, x -> x.seated(5), 7);
        Bounds.asked("seated(NONE)", Tables::sixHungry, x -> x.seated(Bounds.NONE), 2);
        Bounds.outside("seated", Tables::fresh, BiteChild::seated, Bounds.NONE, -1, Bounds.TEN_LESS);
        Bounds.outside("seated", Tables::busy, BiteChild::seated, Bounds.NONE, 2, Bounds.TEN_LESS);
        Bounds.outside("seated", Tables::full, BiteChild::seated, Bounds.NONE, 5, Bounds.TEN_LESS);
    }

    private static void words() {
        Bounds.term("WORDS: the fewest more (0 .. 40) that one needs (beyond 20, too) so that it is less than 12 NEAR now; none.");
        Bounds.asked("words of 11", () -> Tables.biterAndCalm(8), x -> x.words(0), 0);
        Bounds.asked("words of 12", () -> Tables.biterAndCalm(9), x -> x.words(0), 2);
        Bounds.asked("words of 13", () -> Tables.biterAndCalm(10), x -> x.words(0), 4);
        Bounds.asked("words of 31", () -> Tables.biterAndCalm(28), x -> x.words(0), 40);
        Bounds.asked("words of 32", () -> Tables.biterAndCalm(29), x -> x.words(0), Bounds.NONE);
        Bounds.asked("words of 31 with one", () -> Tables.pair(Tables.PLAIN, 1, 28), x -> x.words(0), 39);
        Bounds.asked("words of 32 with one", () -> Tables.pair(Tables.PLAIN, 1, 29), x -> x.words(0), Bounds.NONE);
        Bounds.asked("words of 23 with 20", () -> Tables.pair(Tables.PLAIN, 20, 30), x -> x.words(0), 24);
        Bounds.asked("words of 12 with 19", () -> Tables.pair(Tables.PLAIN, 19, 18), x -> x.words(0), 1);
        Bounds.asked("words of a TALKER", () -> Tables.pair(Tables.TALKER, 0, 30), x -> x.words(0), 22);
        Bounds.asked("words of a CALM one", () -> Tables.pair(Tables.CALM, 0, 30), x -> x.words(0), 10);
        // GUARDED or alone it is no less NEAR.
        Bounds.asked("words of one GUARDED", ComingBounds::guardedPair, x -> x.words(0), 2);
        // BITTEN 8 times it is 16 NEAR by that alone.
        BiteChild sore = new BiteChild();
        sore.table(6);
        sore.child(Tables.PLAIN, 4, 0, 9);
        sore.child(Tables.SORE, 5, 20, 0);
        sore.minute(60);
        Bounds.due("BITTEN", sore.of(1, 4), 8);
        Bounds.due("words of a SORE one", sore.words(1), Bounds.NONE);
    }

    private static void wordsRefused() {
        Bounds.promise(19, "WORDS. NONE. BAD.");
        Bounds.asked("words(5)", Tables::sixHungry, x -> x.words(5), Bounds.NONE);
        Bounds.outside("words", Tables::fresh, BiteChild::words, 0, -1);
        Bounds.outside("words", Tables::busy, BiteChild::words, 0, 2);
        Bounds.outside("words", Tables::full, BiteChild::words, 0, 5);
    }

    private static void say() {
        Bounds.term("SAY: the one whose WORDS, 10 more (beyond 20, too), leave fewest BITES in 20 MINUTES; "
            + "of like ones the first; none: no CHILDREN.");
        // Without them it bites in 8 and 16, with them in 13 and 21; by 8 more WORDS it would be 12 and 20.
        Bounds.asked("say(), 10 more", () -> Tables.pairTurned(Tables.PLAIN, 0, 2), BiteChild::say, 1);
        // With one WORD in 7 and 15, with 11 in 12 and 20; with 12 it would be 13 and 21.
        Bounds.asked("say(), no more than 10", () -> Tables.pairTurned(Tables.PLAIN, 1, 3), BiteChild::say, 0);
        // Without them in 4, 12, 20, with them in 9, 17.
        Bounds.asked("say(), the 20th MINUTE", () -> Tables.pairTurned(Tables.PLAIN, 0, 6), BiteChild::say, 1);
        // Without them in 5, 13 (and 21), with them in 10, 18.
        Bounds.asked("say(), not the 21st", () -> Tables.pairTurned(Tables.PLAIN, 0, 5), BiteChild::say, 0);
        // With 20 in 1, 9, 17, with 30 in 6, 14.
        Bounds.asked("say(), beyond 20", () -> Tables.pairTurned(Tables.PLAIN, 20, 19), BiteChild::say, 1);
        Bounds.asked("say(), of like ones", () -> Tables.pairTurned(Tables.CALM, 20, 0), BiteChild::say, 0);
        Bounds.asked("say(), the last", ComingBounds::lastIsHungry, BiteChild::say, 5);
        int[] bites = new int[6];
        int best = 0;
        for (int i = 0; i < 6; i++) {
            bites[i] = sixOf(Tables.TEETHER, i).minute(20);
            best = bites[i] < bites[best] ? i : best;
        }
        Bounds.holds("more than one in each MINUTE", bites[best] > 27);
        Bounds.asked("say() of six who bite", () -> sixOf(Tables.TEETHER, Bounds.NONE), BiteChild::say, best);
    }

    private static void sayNone() {
        Bounds.promise(20, "SAY. NONE.");
        Bounds.asked("say() with nobody", Tables::fresh, BiteChild::say, Bounds.NONE);
        BiteChild one = new BiteChild();
        one.child(Tables.PLAIN, 4, 0, 0);
        Bounds.due("say() of one alone", one.say(), 0);
        BiteChild gone = Tables.full();
        gone.table(0);
        Bounds.due("say() behind table", gone.say(), Bounds.NONE);
    }
}
