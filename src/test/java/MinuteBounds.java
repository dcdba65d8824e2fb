/** Boundary cases of a MINUTE, of HUNGER at its ends, of carrots, of SEATS changed. */
final class MinuteBounds {
    private MinuteBounds() { }

    static void all() {
        twelveOrMore();
        asItBegins();
        bittenOnceMore();
        eightLess();
        oneMore();
        latelyAndTheMinute();
        minutesGoBy();
        atTheEnd();
        minuteRefused();
        carrotTaken();
        movesTaken();
        womanTaken();
    }

    private static void bitesBy(int want, int kind, int words, int hunger) {
        BiteChild x = Tables.pair(kind, words, hunger);
        String one = " of KIND " + kind + ", " + words + " WORDS, HUNGER " + hunger;
        Bounds.due("BITES" + one, x.now(0, 2), want);
        Bounds.due("minute(1)" + one, x.minute(1), want);
        Bounds.due("BITTEN by one" + one, x.of(1, 4), want);
    }

    private static void twelveOrMore() {
        Bounds.term("A MINUTE: all that are 12 or more NEAR, not on a GUARDED SEAT, have somebody to bite, BITE,");
        bitesBy(0, Tables.PLAIN, 0, 8);
        bitesBy(1, Tables.PLAIN, 0, 9);
        bitesBy(0, Tables.TEETHER, 0, 4);
        bitesBy(1, Tables.TEETHER, 0, 5);
        bitesBy(0, Tables.TALKER, 2, 10);
        bitesBy(1, Tables.TALKER, 2, 11);
        bitesBy(0, Tables.COPIER, 20, 18);
        bitesBy(1, Tables.COPIER, 20, 19);
        bitesBy(0, Tables.SORE, 1, 8);
        bitesBy(1, Tables.SORE, 1, 9);
        bitesBy(0, Tables.CALM, 0, 20);
        bitesBy(1, Tables.CALM, 0, 21);
        int[] bites = {1, 1, 1, 0, 0, 0, 1, 1};
        for (int hers = 0; hers < 8; hers++) {
            BiteChild x = Tables.biterAndCalm(9);
            x.woman(hers);
            Bounds.due("minute(1), she behind " + hers, x.minute(1), bites[hers]);
            Bounds.due("HUNGER, she behind " + hers, x.of(0, 3), bites[hers] == 1 ? 2 : 10);
        }
        BiteChild apart = Tables.biterAndCalm(30);
        apart.moves(1, 6);
        Bounds.due("minute(1) with one two SEATS away", apart.minute(1), 0);
        apart.moves(1, 3);
        Bounds.due("minute(1) with one ahead", apart.minute(1), 1);
        Bounds.due("all that are", Tables.sixHungry().minute(1), 5);
        Bounds.due("nobody", new BiteChild().minute(1), 0);
    }

    private static void asItBegins() {
        Bounds.term("by how all is as it begins (LATELY, too):");
        // Each is 12 NEAR as it begins, whoever is bitten or grows less hungry first.
        BiteChild both = new BiteChild();
        both.child(Tables.PLAIN, 4, 0, 9);
        both.child(Tables.PLAIN, 5, 0, 9);
        Bounds.due("both BITE", both.minute(1), 2);
        Bounds.due("BITTEN of the first", both.of(0, 4), 1);
        Bounds.due("BITTEN of the second", both.of(1, 4), 1);
        for (int turned = 0; turned < 2; turned++) {
            soreBehind(turned);
            copierBehind(turned);
        }
    }

    /** The one on 3 bites the SORE one on 4: it is the nearer by that in the next MINUTE only. */
    private static void soreBehind(int turned) {
        BiteChild x = new BiteChild();
        x.child(turned == 0 ? Tables.PLAIN : Tables.SORE, 3 + turned, 0, turned == 0 ? 20 : 4);
        x.child(turned == 0 ? Tables.SORE : Tables.PLAIN, 4 - turned, 0, turned == 0 ? 4 : 20);
        Bounds.due("SORE as it begins", x.minute(1), 1);
        Bounds.due("SORE behind it", x.now(1 - turned, 0), 5 + 3 + 3 + 2);
        Bounds.due("SORE in the next one", x.minute(1), 2);
    }

    /** The COPIER on 6 is 9 NEAR without LATELY: it bites behind the MINUTE in which another one did. */
    private static void copierBehind(int turned) {
        BiteChild x = new BiteChild();
        if (turned == 1) {
            x.child(Tables.COPIER, 6, 0, 5);
        }
        x.child(Tables.PLAIN, 3, 0, 9);
        x.child(Tables.CALM, 4, 20, 0);
        x.child(Tables.CALM, 5, 20, 0);
        if (turned == 0) {
            x.child(Tables.COPIER, 6, 0, 5);
        }
        Bounds.due("COPIER as it begins", x.minute(1), 1);
        Bounds.due("COPIER in the next one", x.minute(1), 1);
        Bounds.due("HUNGER of the COPIER", x.of(turned == 0 ? 3 : 0, 3), 1);
    }

    private static void bittenOnceMore() {
        Bounds.term("that one is BITTEN once more,");
        BiteChild x = new BiteChild();
        x.child(Tables.PLAIN, 2, 0, 9);
        x.child(Tables.CALM, 3, 20, 0);
        x.child(Tables.PLAIN, 4, 0, 9);
        Bounds.due("two BITE the one between them", x.minute(1), 2);
        Bounds.due("BITTEN by two", x.of(1, 4), 2);
        Bounds.due("BITTEN of the first", x.of(0, 4), 0);
        Bounds.due("BITTEN of the last", x.of(2, 4), 0);
        x.minute(8);
        Bounds.due("BITTEN by two again", x.of(1, 4), 4);
        BiteChild round = new BiteChild();
        round.table(3);
        round.child(Tables.PLAIN, 7, 0, 30);
        round.child(Tables.CALM, 0, 20, 0);
        round.child(Tables.CALM, 6, 20, 0);
        round.minute(1);
        Bounds.due("BITTEN, 7 to 0", round.of(1, 4), 1);
        Bounds.due("BITTEN, not 7 to 6", round.of(2, 4), 0);
        round.moves(1, 1);
        round.minute(1);
        Bounds.due("BITTEN, 7 to 6 with 0 free", round.of(2, 4), 1);
        round.table(3);
        round.child(Tables.PLAIN, 0, 0, 30);
        round.child(Tables.CALM, 7, 20, 0);
        round.minute(1);
        Bounds.due("BITTEN, 0 to 7 with 1 free", round.of(1, 4), 1);
    }

    private static void hungerBehind(int want, int kind, int hunger, int bites) {
        BiteChild x = Tables.pair(kind, 0, hunger);
        Bounds.due("minute(1) from HUNGER " + hunger, x.minute(1), bites);
        Bounds.due("HUNGER behind a MINUTE from " + hunger, x.of(0, 3), want);
    }

    private static void eightLess() {
        Bounds.term("HUNGER of the biter is 8 less (0 at least);");
        hungerBehind(1, Tables.TEETHER, 5, 1);
        hungerBehind(1, Tables.TEETHER, 7, 1);
        hungerBehind(1, Tables.TEETHER, 8, 1);
        hungerBehind(2, Tables.TEETHER, 9, 1);
        hungerBehind(23, Tables.TEETHER, 30, 1);
        hungerBehind(22, Tables.TEETHER, 29, 1);
    }

    private static void oneMore() {
        Bounds.term("then HUNGER of each is 1 more (30 at most);");
        hungerBehind(1, Tables.PLAIN, 0, 0);
        hungerBehind(9, Tables.PLAIN, 8, 0);
        BiteChild x = new BiteChild();
        x.child(Tables.PLAIN, 4, 0, 29);
        x.child(Tables.PLAIN, 0, 0, 30);
        x.child(Tables.PLAIN, 1, 0, 28);
        x.minute(1);
        Bounds.due("HUNGER 29, 1 more", x.of(0, 3), 30);
        Bounds.due("HUNGER 30, no more", x.of(1, 3), 30);
        Bounds.due("HUNGER 28, 1 more", x.of(2, 3), 29);
        x.minute(60);
        for (int i = 0; i < 3; i++) {
            Bounds.due("HUNGER behind an hour", x.of(i, 3), 30);
        }
    }

    private static void latelyAndTheMinute() {
        Bounds.term("LATELY is how many BITES there were in it; the MINUTE is one more.");
        BiteChild x = Tables.sixHungry();
        x.minute(1);
        Bounds.countsAre("behind five BITES", x, 6, 1, 5, 5);
        BiteChild two = Tables.biterAndCalm(17);
        two.minute(1);
        Bounds.countsAre("behind a BITE", two, 2, 1, 1, 1);
        two.minute(1);
        Bounds.countsAre("behind a BITE more", two, 2, 2, 2, 1);
        two.minute(1);
        Bounds.countsAre("behind none", two, 2, 3, 2, 0);
    }

    private static void minutesGoBy() {
        Bounds.promise(7, "n MINUTES go by (1 .. 60; together one that may be undone;");
        Bounds.taken("minute(1)", () -> Tables.biterAndCalm(9), x -> x.minute(1), 1);
        Bounds.taken("minute(8)", () -> Tables.biterAndCalm(9), x -> x.minute(8), 1);
        Bounds.taken("minute(9)", () -> Tables.biterAndCalm(9), x -> x.minute(9), 2);
        Bounds.taken("minute(60)", () -> Tables.biterAndCalm(9), x -> x.minute(60), 8);
        BiteChild x = Tables.biterAndCalm(9);
        long first = x.digest();
        x.minute(60);
        Bounds.countsAre("behind an hour", x, 2, 60, 8, 0, 0, 0, 1, 0);
        Bounds.due("undo() of an hour", x.undo(), 0);
        Bounds.due("digest() behind it", x.digest(), first);
        x.minute(1);
        x.minute(2);
        Bounds.due("that may be undone", x.count(6), 2);
        Bounds.due("undo() of two", x.undo(), 1);
        Bounds.due("undo() of one", x.undo(), 0);
    }

    private static BiteChild biterAt(int minute) {
        BiteChild x = new BiteChild();
        Tables.passTo(x, minute);
        x.child(Tables.PLAIN, 4, 0, 9);
        x.child(Tables.CALM, 5, 20, 0);
        return x;
    }

    private static void atTheEnd() {
        Bounds.promise(7, "at 999 none): BITES in them.");
        Bounds.taken("minute(60) at 939", () -> biterAt(939), x -> x.minute(60), 8);
        Bounds.taken("minute(60) at 990, nine go by", () -> biterAt(990), x -> x.minute(60), 2);
        Bounds.taken("minute(60) at 991, eight go by", () -> biterAt(991), x -> x.minute(60), 1);
        Bounds.taken("minute(60) at 998, one goes by", () -> biterAt(998), x -> x.minute(60), 1);
        Bounds.taken("minute(60) at 999", () -> biterAt(999), x -> x.minute(60), 0);
        Bounds.taken("minute(1) at 999", () -> biterAt(999), x -> x.minute(1), 0);
        BiteChild x = biterAt(998);
        x.minute(2);
        Bounds.countsAre("behind the last MINUTE", x, 2, 999, 1, 1, 0, 0, 1, 0);
        Bounds.due("HUNGER behind one MINUTE", x.of(0, 3), 2);
        x.minute(60);
        Bounds.countsAre("behind no MINUTE", x, 2, 999, 1, 1, 0);
        Bounds.due("HUNGER behind no MINUTE", x.of(0, 3), 2);
        Bounds.due("BITTEN behind no MINUTE", x.of(1, 4), 1);
        BiteChild back = biterAt(998);
        long before = back.digest();
        back.minute(60);
        Bounds.due("undo() of the last MINUTE", back.undo(), 998);
        Bounds.due("digest() behind it", back.digest(), before);
        Bounds.due("it goes by again", back.minute(1), 1);
    }

    private static void minuteRefused() {
        Bounds.promise(7, "BAD.");
        Bounds.outside("minute", Tables::fresh, BiteChild::minute, 1, 60);
        Bounds.outside("minute", Tables::busy, BiteChild::minute, 1, 60);
        Bounds.outside("minute", Tables::full, BiteChild::minute, 1, 60);
        Bounds.outside("minute at 999", () -> biterAt(999), BiteChild::minute, 1, 60);
    }

    private static void carrotTaken() {
        Bounds.promise(8, "A CHILD gets a carrot (HUNGER 10 less, 0 at least): HUNGER. BAD.");
        int[] hungers = {0, 9, 10, 11, 20, 30};
        int[] want = {0, 0, 0, 1, 10, 20};
        for (int k = 0; k < want.length; k++) {
            int hunger = hungers[k];
            Bounds.taken("carrot(0) at " + hunger, () -> Tables.biterAndCalm(hunger), x -> x.carrot(0), want[k]);
            BiteChild x = Tables.biterAndCalm(hunger);
            x.carrot(0);
            Bounds.due("HUNGER behind a carrot at " + hunger, x.of(0, 3), want[k]);
            Bounds.due("HUNGER of the other", x.of(1, 3), 0);
            Bounds.countsAre("behind a carrot", x, 2, 0, 0, 0, 0, 0, 1, 0);
            Bounds.due("undo() of a carrot", x.undo(), 0);
            Bounds.due("HUNGER behind undo", x.of(0, 3), hunger);
        }
        Bounds.taken("carrot of the last", Tables::full, x -> x.carrot(5), 20);
        Bounds.outside("carrot", Tables::fresh, BiteChild::carrot, 0, -1);
        Bounds.outside("carrot", Tables::busy, BiteChild::carrot, 0, 2);
        Bounds.outside("carrot", Tables::full, BiteChild::carrot, 0, 5);
    }

    private static void movesTaken() {
        Bounds.promise(9, "A CHILD goes to a free SEAT (or its own): where it was. BAD; NO: another one is there.");
        for (int seat = 0; seat < 8; seat++) {
            int to = seat;
            if (seat == 5) {
                Bounds.no("moves(0, 5)", () -> Tables.biterAndCalm(9), x -> x.moves(0, to));
            } else {
                Bounds.taken("moves(0, " + seat + ")", () -> Tables.biterAndCalm(9), x -> x.moves(0, to), 4);
                BiteChild x = Tables.biterAndCalm(9);
                x.moves(0, seat);
                Bounds.due("SEAT behind moves", x.of(0, 1), seat);
                Bounds.due("SEAT of the other", x.of(1, 1), 5);
                Bounds.due("the SEAT that was left is free", x.child(0, 4, 0, 0), seat == 4 ? Bounds.NO : 2);
            }
        }
        Bounds.no("moves to the SEAT of the last", Tables::full, x -> x.moves(0, 6));
        Bounds.taken("moves to a SEAT that was left", Tables::full, x -> x.moves(0, 3), 1);
        Bounds.outside("moves of a CHILD", Tables::fresh, (x, n) -> x.moves(n, 0), 0, -1);
        Bounds.outside("moves of a CHILD", Tables::busy, (x, n) -> x.moves(n, 1), 0, 2);
        Bounds.outside("moves of a CHILD", Tables::full, (x, n) -> x.moves(n, 0), 0, 5);
        Bounds.outside("moves to a SEAT", Tables::busy, (x, n) -> x.moves(0, n), 0, 7);
        Bounds.outside("moves to a SEAT", Tables::full, (x, n) -> x.moves(5, n), 0, 7);
    }

    private static void womanTaken() {
        Bounds.promise(10, "She goes behind a SEAT: where she was. BAD.");
        Bounds.taken("woman(7)", Tables::fresh, x -> x.woman(7), 0);
        Bounds.taken("woman(0)", Tables::full, x -> x.woman(0), 4);
        BiteChild x = Tables.busy();
        for (int seat = 0; seat < 8; seat++) {
            Bounds.due("woman(" + seat + ")", x.woman(seat), seat == 0 ? 6 : seat - 1);
            Bounds.due("her SEAT", x.count(4), seat);
        }
        Bounds.outside("woman", Tables::fresh, BiteChild::woman, 0, 7);
        Bounds.outside("woman", Tables::busy, BiteChild::woman, 0, 7);
        Bounds.outside("woman", Tables::full, BiteChild::woman, 0, 7);
    }
}
