/** Boundary cases of SEATS, CHILDREN, THE WOMAN and of what is so at first. */
final class SeatBounds {
    private SeatBounds() { }

    static void all() {
        roundTheTable();
        childrenAsTheyCome();
        oneEach();
        guarded();
        minutesHaveNumbers();
        atFirst();
        newObject();
        tableAnew();
        fewerThanBefore();
        tableRefused();
        childTaken();
        childRefused();
        whatIsOfOne();
    }

    private static void roundTheTable() {
        Bounds.term("7 round a table (7 next to 0).");
        for (int a = 0; a < 8; a++) {
            for (int b = 0; b < 8; b++) {
                if (a != b) {
                    boolean beside = Tables.NEXT[a] == b || Tables.AHEAD[a] == b;
                    BiteChild x = new BiteChild();
                    x.child(Tables.PLAIN, a, 0, 0);
                    x.child(Tables.PLAIN, b, 0, 0);
                    String seats = " on " + a + ", " + b;
                    Bounds.due("TIGHT" + seats, x.of(0, 5), beside ? 1 : 0);
                    Bounds.due("whom" + seats, x.now(0, 1), beside ? 1 : Bounds.NONE);
                    Bounds.due("who" + seats, x.who(0), beside ? 2 : 0);
                }
            }
        }
        Bounds.taken("woman(7)", Tables::busy, x -> x.woman(7), 6);
        Bounds.taken("woman(0)", Tables::busy, x -> x.woman(0), 6);
    }

    private static void childrenAsTheyCome() {
        Bounds.term("CHILDREN 0 .. 5, as they come: a KIND,");
        BiteChild x = new BiteChild();
        for (int i = 0; i < 6; i++) {
            Bounds.due("of one that is not there", x.of(i, 0), Bounds.BAD);
            Bounds.due("child " + i, x.child(5 - i, 7 - i, 0, 0), i);
            Bounds.due("KIND of " + i, x.of(i, 0), 5 - i);
            Bounds.due("count(0)", x.count(0), i + 1);
        }
        Bounds.outside("of a CHILD beyond 5", Tables::full, (y, i) -> y.of(i, 0), 0, 5);
    }

    private static void oneEach() {
        Bounds.term("a SEAT (one each), WORDS (0 .. 20), HUNGER (0 .. 30).");
        for (int seat = 0; seat < 8; seat++) {
            int here = seat;
            Bounds.no("child on a taken SEAT " + seat, () -> oneOn(here), x -> x.child(0, here, 0, 0));
            Bounds.taken("child beside " + seat, () -> oneOn(here), x -> x.child(0, Tables.NEXT[here], 0, 0), 1);
        }
        BiteChild x = new BiteChild();
        x.child(0, 0, 0, 0);
        x.child(0, 1, 20, 30);
        Bounds.due("WORDS least", x.of(0, 2), 0);
        Bounds.due("WORDS greatest", x.of(1, 2), 20);
        Bounds.due("HUNGER least", x.of(0, 3), 0);
        Bounds.due("HUNGER greatest", x.of(1, 3), 30);
    }

    private static BiteChild oneOn(int seat) {
        BiteChild x = new BiteChild();
        x.child(Tables.PLAIN, seat, 0, 0);
        return x;
    }

    private static void guarded() {
        Bounds.term("THE WOMAN stands behind a SEAT (0 at first): GUARDED are that one, the next, the one ahead of it.");
        Bounds.due("her SEAT at first", new BiteChild().count(4), 0);
        for (int hers = 0; hers < 8; hers++) {
            for (int seat = 0; seat < 8; seat++) {
                BiteChild x = new BiteChild();
                x.table(hers);
                x.child(Tables.PLAIN, seat, 0, 30);
                x.child(Tables.CALM, Tables.NEXT[seat], 20, 0);
                boolean guarded = seat == hers || seat == Tables.NEXT[hers] || seat == Tables.AHEAD[hers];
                String seats = " on " + seat + ", she behind " + hers;
                Bounds.due("BITES" + seats, x.now(0, 2), guarded ? 0 : 1);
                Bounds.due("minute(1)" + seats, x.minute(1), guarded ? 0 : 1);
            }
        }
    }

    private static void minutesHaveNumbers() {
        Bounds.term("MINUTES have numbers, 0 at first (999 at most).");
        BiteChild x = new BiteChild();
        Bounds.due("the MINUTE at first", x.count(1), 0);
        Tables.passTo(x, 998);
        Bounds.due("the MINUTE ahead of the last", x.count(1), 998);
        x.minute(1);
        Bounds.due("the last MINUTE", x.count(1), 999);
        x.minute(1);
        Bounds.due("the MINUTE behind the last", x.count(1), 999);
    }

    private static void atFirst() {
        Bounds.term("BITTEN of each (how often; 0 at first), BITES in all (0 at first), "
            + "LATELY: how many BITES in the last MINUTE that went by (0 at first).");
        BiteChild x = Tables.biterAndCalm(9);
        Bounds.due("BITTEN at first", x.of(1, 4), 0);
        Bounds.due("BITES at first", x.count(2), 0);
        Bounds.due("LATELY at first", x.count(3), 0);
        x.image(0);
        x.minute(1);
        Bounds.due("BITTEN behind a BITE", x.of(1, 4), 1);
        Bounds.due("BITES behind a BITE", x.count(2), 1);
        Bounds.due("LATELY behind a BITE", x.count(3), 1);
        x.child(Tables.PLAIN, 0, 0, 0);
        Bounds.due("BITTEN of one that comes late", x.of(2, 4), 0);
        x.minute(1);
        Bounds.due("LATELY behind a quiet MINUTE", x.count(3), 0);
        Bounds.due("BITES behind a quiet MINUTE", x.count(2), 1);
        x.minute(8);
        Bounds.due("LATELY of the last of eight, the seventh bit", x.count(3), 0);
        Bounds.due("BITES in all", x.count(2), 2);
        // The rows of those who went are there still: who comes in their place is bitten 0 times.
        x.table(0);
        x.child(Tables.PLAIN, 4, 0, 9);
        x.child(Tables.CALM, 5, 20, 0);
        Bounds.due("BITTEN behind table", x.of(1, 4), 0);
        x.minute(1);
        Tables.write(x, "table 0;child 0 4 0 9;child 5 5 20 0;");
        x.read();
        Bounds.due("BITTEN behind read", x.of(1, 4), 0);
        x.minute(1);
        x.from(0);
        Bounds.due("BITTEN from an IMAGE", x.of(1, 4), 0);
    }

    private static void newObject() {
        Bounds.promise(1, "As told; no CHILDREN.");
        BiteChild x = new BiteChild();
        Bounds.countsAre("of a new one", x, 0, 0, 0, 0, 0, 0, 0, 0);
        Bounds.due("above", x.part(0), 0);
        Bounds.due("below", x.part(1), 1);
        Bounds.statusIs("of a new one", x, new long[3], Bounds.NONE);
        Bounds.no("undo() of a new one", Tables::fresh, BiteChild::undo);
        Bounds.no("from(0) of a new one", Tables::fresh, y -> y.from(0));
        Bounds.no("from(1) of a new one", Tables::fresh, y -> y.from(1));
        Bounds.bad("of(0, 0) of a new one", Tables::fresh, y -> y.of(0, 0));
        Bounds.due("two new ones are apart", Tables.busy().count(0) + new BiteChild().count(0), 3);
    }

    private static void tableAnew() {
        Bounds.promise(2, "Behind which SEAT she stands, all else as at first "
            + "(but for IMAGES, THE TEXT, THE FRACTION, STATUS): how many CHILDREN there were.");
        Bounds.taken("table(0) of none", Tables::fresh, x -> x.table(0), 0);
        Bounds.taken("table(7) of three", Tables::busy, x -> x.table(7), 3);
        Bounds.taken("table(7) of six", Tables::full, x -> x.table(7), 6);
        BiteChild x = Tables.full();
        long above = x.part(0);
        long below = x.part(1);
        x.table(7);
        Bounds.countsAre("behind table(7)", x, 0, 0, 0, 0, 7, 0, 0, 150);
        Bounds.due("undo() behind table", x.undo(), Bounds.NO);
        Bounds.due("above behind table", x.part(0), above);
        Bounds.due("below behind table", x.part(1), below);
        Bounds.holds("a FRACTION that is not the first one", below != 1);
        Bounds.due("read() behind table", x.read(), 12);
        Bounds.due("from(0) behind table", x.from(0), 1);
        Bounds.due("NOTES from the IMAGE", x.count(5), 6);
        Bounds.due("child behind table, on a SEAT that was taken", seatsAreFree(), 0);
    }

    /** Two sit where six hungry ones did: nothing of those who went is in what comes. */
    private static void fewerThanBefore() {
        BiteChild x = Tables.sixHungry();
        x.minute(3);
        x.table(0);
        BiteChild y = new BiteChild();
        for (BiteChild each : new BiteChild[] {x, y}) {
            each.child(Tables.PLAIN, 4, 0, 8);
            each.child(Tables.SORE, 5, 0, 8);
        }
        x.woman(4);
        y.woman(4);
        for (int i = 0; i < 2; i++) {
            Bounds.due("TIGHT behind table", x.of(i, 5), 1);
            Bounds.due("seated behind table", x.seated(i), y.seated(i));
            Bounds.due("who behind table", x.who(i), 2 - i);
        }
        Bounds.due("seated(NONE) behind table", x.seated(Bounds.NONE), 0);
        Bounds.due("then behind table", x.then(60, Bounds.NONE), y.then(60, Bounds.NONE));
        Bounds.due("stand behind table", x.stand(60, 1), y.stand(60, 1));
        Bounds.due("helps behind table", x.helps(), y.helps());
        Bounds.due("say behind table", x.say(), y.say());
        Bounds.due("weeks behind table", x.weeks(9, 60), y.weeks(9, 60));
        Bounds.due("eyes behind table", x.eyes(0), 1);
        Bounds.due("above behind table", x.part(0), 0);
        y.eyes(0);
        Bounds.alike("behind table", x, y);
    }

    private static long seatsAreFree() {
        BiteChild x = Tables.full();
        x.table(0);
        return x.child(Tables.PLAIN, 1, 0, 0);
    }

    private static void tableRefused() {
        Bounds.promise(2, "BAD.");
        Bounds.outside("table", Tables::fresh, BiteChild::table, 0, 7);
        Bounds.outside("table", Tables::busy, BiteChild::table, 0, 7);
        Bounds.outside("table", Tables::full, BiteChild::table, 0, 7);
    }

    private static void childTaken() {
        Bounds.promise(3, "A CHILD: its number.");
        Bounds.taken("child least", Tables::fresh, x -> x.child(0, 0, 0, 0), 0);
        Bounds.taken("child greatest", Tables::fresh, x -> x.child(5, 7, 20, 30), 0);
        Bounds.taken("child fourth", Tables::busy, x -> x.child(0, 1, 0, 0), 3);
        BiteChild x = Tables.busy();
        int minute = x.count(1), bites = x.count(2), lately = x.count(3), woman = x.count(4);
        x.child(5, 1, 20, 30);
        Bounds.countsAre("behind a fourth child", x, 4, minute, bites, lately, woman, 2, 0, 31);
        int[] want = {5, 1, 20, 30, 0, 1};
        for (int what = 0; what < 6; what++) {
            Bounds.due("of(3, " + what + ")", x.of(3, what), want[what]);
        }
    }

    private static void childRefused() {
        Bounds.promise(3, "BAD; NO: the SEAT is taken; FULL: 6.");
        Bounds.outside("child KIND", Tables::busy, (x, n) -> x.child(n, 1, 0, 0), 0, 5);
        Bounds.outside("child SEAT", Tables::busy, (x, n) -> x.child(0, n, 0, 0), 0, 7);
        Bounds.outside("child WORDS", Tables::busy, (x, n) -> x.child(0, 1, n, 0), 0, 20);
        Bounds.outside("child HUNGER", Tables::busy, (x, n) -> x.child(0, 1, 0, n), 0, 30);
        Bounds.no("child on the SEAT of the first", Tables::busy, x -> x.child(0, 7, 0, 0));
        Bounds.no("child on the SEAT of the last", Tables::busy, x -> x.child(0, 4, 0, 0));
        Bounds.taken("child on a SEAT that was left", Tables::busy, x -> x.child(0, 5, 0, 0), 3);
        Bounds.taken("sixth child", () -> many(5), x -> x.child(0, 7, 0, 0), 5);
        Bounds.full("seventh child", () -> many(6), x -> x.child(0, 7, 0, 0));
        Bounds.full("seventh child", Tables::full, x -> x.child(0, 0, 0, 0));
    }

    private static BiteChild many(int children) {
        BiteChild x = new BiteChild();
        for (int i = 0; i < children; i++) {
            x.child(Tables.PLAIN, i, 0, 0);
        }
        return x;
    }

    private static void whatIsOfOne() {
        Bounds.promise(12, "Of a CHILD: KIND (0), SEAT (1), WORDS (2), HUNGER (3), BITTEN (4), TIGHT (5). BAD.");
        int[] want = {4, 7, 3, 11, 0, 2};
        for (int what = 0; what < 6; what++) {
            int part = what;
            Bounds.asked("of(0, " + what + ")", SeatBounds::threeRound, x -> x.of(0, part), want[what]);
        }
        Bounds.asked("of the last", SeatBounds::threeRound, x -> x.of(2, 1), 6);
        Bounds.outside("of what", SeatBounds::threeRound, (x, n) -> x.of(0, n), 0, 5);
        Bounds.outside("of a CHILD", SeatBounds::threeRound, (x, n) -> x.of(n, 0), 0, 2);
        Bounds.outside("of a CHILD", Tables::full, (x, n) -> x.of(n, 5), 0, 5);
        Bounds.bad("of with nobody", Tables::fresh, x -> x.of(0, 5));
        BiteChild bitten = Tables.biterAndCalm(9);
        bitten.minute(1);
        Bounds.due("BITTEN", bitten.of(1, 4), 1);
    }

    private static BiteChild threeRound() {
        BiteChild x = new BiteChild();
        x.child(Tables.SORE, 7, 3, 11);
        x.child(Tables.COPIER, 0, 4, 12);
        x.child(Tables.TALKER, 6, 5, 13);
        return x;
    }
}
