import java.math.BigInteger;
import java.util.ArrayDeque;
import java.util.Deque;
import java.util.function.ToLongFunction;

/** Boundary cases of what is kept: UNDO, IMAGES, STATUS, THE FRACTION, what is refused, the digest. */
final class KeptBounds {
    private KeptBounds() { }

    static void all() {
        undo();
        undoLeaves();
        eightAtMost();
        roundTheEight();
        behindAChild();
        callsThatChangeNothing();
        undoRefused();
        images();
        imageIsApart();
        imageRefused();
        from();
        status();
        statusRefused();
        fraction();
        partRefused();
        firstOf();
        count();
        digest();
        calls();
    }

    private static void undoes(String call, ToLongFunction<BiteChild> change, int minute) {
        BiteChild x = Tables.busy();
        int may = x.count(6);
        change.applyAsLong(x);
        Bounds.due("count(6) behind " + call, x.count(6), may + 1);
        Bounds.due("undo() of " + call, x.undo(), minute);
        Bounds.due("count(6) behind undo() of " + call, x.count(6), may);
        Bounds.alike("behind undo() of " + call, x, Tables.busy());
    }

    private static void undo() {
        Bounds.term("UNDO: SEATS, HUNGER, BITTEN, BITES, LATELY, THE WOMAN, the MINUTE as ahead of the last MINUTES gone by, "
            + "carrot, SEAT changed, WOMAN gone elsewhere");
        undoes("minute(1)", x -> x.minute(1), 3);
        undoes("minute(60)", x -> x.minute(60), 3);
        undoes("carrot(0)", x -> x.carrot(0), 3);
        undoes("moves(1, 6)", x -> x.moves(1, 6), 3);
        undoes("woman(1)", x -> x.woman(1), 3);
        BiteChild x = Tables.biterAndCalm(9);
        x.minute(1);
        x.minute(8);
        Bounds.countsAre("behind two BITES", x, 2, 9, 2, 1);
        Bounds.due("undo()", x.undo(), 1);
        Bounds.countsAre("behind undo()", x, 2, 1, 1, 1);
        Bounds.due("BITTEN behind undo()", x.of(1, 4), 1);
        Bounds.due("HUNGER behind undo()", x.of(0, 3), 2);
        Bounds.due("undo() again", x.undo(), 0);
        Bounds.countsAre("behind undo() again", x, 2, 0, 0, 0);
        Bounds.due("BITTEN behind undo() again", x.of(1, 4), 0);
        Bounds.due("the same again", x.minute(1), 1);
    }

    /** NOTES, THE TEXT, THE FRACTION, IMAGES and STATUS are none of what comes back. */
    private static void undoLeaves() {
        BiteChild x = Tables.biterAndCalm(9);
        x.minute(1);
        x.note(0, 1, 1, 1, 1, 1, 1);
        x.type(65);
        x.minute(7);
        x.eyes(1);
        x.image(1);
        x.eyes(11);
        x.undo();
        x.undo();
        Bounds.countsAre("behind undo()", x, 2, 0, 0, 0, 0, 1, 0, 1);
        Bounds.due("above behind undo()", x.part(0), 9);
        Bounds.due("below behind undo()", x.part(1), 10);
        Bounds.due("status(0) behind undo()", x.status(0), 1);
        Bounds.due("from(1) behind undo()", x.from(1), 1);
        Bounds.due("the MINUTE of the IMAGE", x.count(1), 8);
    }

    private static long sight(BiteChild x) {
        long h = 7;
        for (int what = 0; what < 5; what++) {
            h = 31 * h + x.count(what);
        }
        for (int i = 0; i < x.count(0); i++) {
            h = 31 * (31 * (31 * h + x.of(i, 1)) + x.of(i, 3)) + x.of(i, 4);
        }
        return h;
    }

    private static void change(BiteChild x, int k) {
        switch (k % 4) {
            case 0: x.minute(1 + k % 3); break;
            case 1: x.carrot(k % 2); break;
            case 2: x.moves(0, k / 4 % 2 == 0 ? 3 : 4); break;
            default: x.woman((x.count(4) + 1) % 8); break;
        }
    }

    private static void eightAtMost() {
        Bounds.term("(8 at most;");
        for (int made = 0; made <= 20; made++) {
            BiteChild x = Tables.biterAndCalm(20);
            Deque<Long> ahead = new ArrayDeque<>();
            for (int k = 0; k < made; k++) {
                ahead.push(sight(x));
                change(x, k);
            }
            Bounds.due("count(6) behind " + made, x.count(6), Math.min(8, made));
            for (int k = 0; k < Math.min(8, made); k++) {
                x.undo();
                Bounds.due("as it was ahead of " + (made - k), sight(x), ahead.pop());
            }
            Bounds.due("count(6) behind all undone", x.count(6), 0);
            Bounds.due("undo() of one more", x.undo(), Bounds.NO);
        }
    }

    /** Changes and undone ones by turns, more than eight of them, so that their places are used again. */
    private static void roundTheEight() {
        BiteChild x = Tables.biterAndCalm(20);
        Deque<Long> ahead = new ArrayDeque<>();
        int[] turns = {5, -2, 4, -3, 6, -8, 9, -1, 1, -8, 3, 8, -5, 5};
        int k = 0;
        for (int turn : turns) {
            for (int n = 0; n < turn; n++, k++) {
                ahead.push(sight(x));
                while (ahead.size() > 8) {
                    ahead.removeLast();
                }
                change(x, k);
            }
            for (int n = 0; n > turn && !ahead.isEmpty(); n--) {
                x.undo();
                Bounds.due("as it was", sight(x), ahead.pop());
            }
            Bounds.due("count(6)", x.count(6), ahead.size());
        }
    }

    private static void behindAChild() {
        Bounds.term("behind a CHILD that comes none may be).");
        BiteChild x = Tables.busy();
        Bounds.due("count(6) ahead of a CHILD", x.count(6), 6);
        x.child(0, 1, 0, 0);
        Bounds.due("count(6) behind a CHILD", x.count(6), 0);
        Bounds.due("undo() behind a CHILD", x.undo(), Bounds.NO);
        x.woman(1);
        Bounds.due("undo() of what came behind it", x.undo(), 3);
        Bounds.due("the CHILD stays", x.count(0), 4);
        Bounds.due("undo() no further", x.undo(), Bounds.NO);
        BiteChild refused = Tables.busy();
        refused.child(6, 1, 0, 0);
        refused.child(0, 7, 0, 0);
        Bounds.due("count(6) behind a refused CHILD", refused.count(6), 6);
        BiteChild seventh = Tables.full();
        seventh.child(0, 0, 0, 0);
        Bounds.due("count(6) behind a seventh CHILD", seventh.count(6), 8);
        x.from(0);
        Bounds.due("count(6) from an IMAGE of before", x.count(6), 2);
    }

    /**
     * The document can be read both ways here (NOTES.md): each call that is not refused is one that
     * may be undone, a carrot to one of HUNGER 0, the own SEAT, the same place, 999 too.
     */
    private static void callsThatChangeNothing() {
        BiteChild x = Tables.biterAndCalm(0);
        x.carrot(0);
        Bounds.due("count(6) behind a carrot for one of HUNGER 0", x.count(6), 1);
        x.moves(0, 4);
        Bounds.due("count(6) behind moves to its own SEAT", x.count(6), 2);
        x.woman(0);
        Bounds.due("count(6) behind woman to the same SEAT", x.count(6), 3);
        BiteChild late = new BiteChild();
        Tables.passTo(late, 999);
        late.child(0, 0, 0, 0);
        late.minute(1);
        Bounds.due("count(6) behind minute at 999", late.count(6), 1);
        Bounds.due("undo() of it", late.undo(), 999);
    }

    private static void undoRefused() {
        Bounds.promise(11, "UNDO: the MINUTE then. NO: none may be.");
        Bounds.no("undo() of nothing", Tables::fresh, BiteChild::undo);
        Bounds.no("undo() behind children", Tables::sixHungry, BiteChild::undo);
        Bounds.taken("undo()", Tables::busy, BiteChild::undo, 2);
        Bounds.taken("undo()", Tables::full, BiteChild::undo, 21);
        BiteChild x = Tables.busy();
        int[] minutes = {2, 2, 2, 2, 2, 0};
        for (int minute : minutes) {
            Bounds.due("undo()", x.undo(), minute);
        }
        Bounds.due("undo() at its end", x.undo(), Bounds.NO);
    }

    private static void images() {
        Bounds.term("IMAGES 0, 1 keep all but them, THE TEXT, THE FRACTION and STATUS; what may be undone they keep; "
            + "it goes on from one.");
        for (int image = 0; image < 2; image++) {
            keepsAll(image);
        }
        BiteChild x = Tables.busy();
        x.image(1);
        x.eyes(5);
        x.clear();
        x.type(66);
        x.type(67);
        x.eyes(12);
        long above = x.part(0), below = x.part(1);
        long[] status = Bounds.statusOf(x);
        x.table(0);
        x.from(1);
        Bounds.countsAre("from(1)", x, 3, 3, x.count(2), x.count(3), 6, 2, 6, 2);
        Bounds.due("above from(1)", x.part(0), above);
        Bounds.due("below from(1)", x.part(1), below);
        Bounds.statusIs("from(1)", x, status, Bounds.NONE);
        Bounds.due("read() from(1)", x.read(), -10);
        // Going on from one is no change of the other, nor of itself.
        x.from(0);
        x.image(0);
        Bounds.due("from(1) behind from(0)", x.from(1), 1);
        Bounds.due("the MINUTE", x.count(1), 3);
        Bounds.due("from(0) behind from(1)", x.from(0), 1);
        Bounds.due("the MINUTE", x.count(1), 2);
    }

    /** Busy as it is, an IMAGE is made and all is changed: from it all is as in a twin. */
    private static void keepsAll(int image) {
        BiteChild x = Tables.full();
        BiteChild twin = Tables.full();
        Bounds.due("image", x.image(image), 1);
        twin.image(image);
        x.minute(60);
        x.forget();
        x.moves(0, 3);
        x.woman(7);
        x.table(5);
        x.child(3, 3, 3, 3);
        x.note(0, 0, 0, 0, 0, 0, 0);
        x.minute(2);
        Bounds.due("from", x.from(image), 1);
        Bounds.alike("from an IMAGE", x, twin);
    }

    /** What goes on behind an IMAGE, or from it, is no part of it. */
    private static void imageIsApart() {
        BiteChild x = Tables.busy();
        x.image(1);
        long kept = x.digest();
        for (int k = 0; k < 3; k++) {
            for (int n = 0; n < 9; n++) {
                change(x, n + k);
            }
            x.undo();
            x.note(0, k, 0, 0, 0, 0, k);
            x.child(0, 1, 20, 30);
            x.from(1);
            Bounds.due("digest() from an IMAGE", x.digest(), kept);
            for (int n = 0; n < 6; n++) {
                Bounds.due("undo() from an IMAGE", x.undo(), n < 5 ? 2 : 0);
            }
            x.forget();
            for (int n = 0; n < 6; n++) {
                x.note(n % 3, n + 10, n % 2, 19 - n, 9 - n, n, 40 + k);
            }
            x.from(1);
            Bounds.due("digest() from an IMAGE again", x.digest(), kept);
            Bounds.due("is(1) by the NOTES of the IMAGE", x.is(1), 16);
        }
    }

    private static void imageRefused() {
        Bounds.promise(30, "An IMAGE is kept: 1. BAD.");
        Bounds.taken("image(0)", Tables::fresh, x -> x.image(0), 1);
        Bounds.taken("image(1)", Tables::fresh, x -> x.image(1), 1);
        Bounds.taken("image(0) over another", Tables::full, x -> x.image(0), 1);
        Bounds.outside("image", Tables::fresh, BiteChild::image, 0, 1);
        Bounds.outside("image", Tables::busy, BiteChild::image, 0, 1);
        Bounds.outside("image", Tables::full, BiteChild::image, 0, 1);
        BiteChild x = Tables.busy();
        x.image(1);
        x.minute(5);
        x.image(1);
        x.table(0);
        x.from(1);
        Bounds.due("the MINUTE of the later one", x.count(1), 8);
        x.from(0);
        Bounds.due("the MINUTE of the other", x.count(1), 2);
    }

    private static void from() {
        Bounds.promise(31, "It goes on from an IMAGE: 1. BAD; NO: none was kept.");
        Bounds.taken("from(0)", Tables::busy, x -> x.from(0), 1);
        Bounds.no("from(1), none was kept", Tables::busy, x -> x.from(1));
        Bounds.taken("from(1)", Tables::full, x -> x.from(1), 1);
        Bounds.outside("from", Tables::fresh, BiteChild::from, 0, 1);
        Bounds.outside("from", Tables::busy, BiteChild::from, 0, 1);
        Bounds.outside("from", Tables::full, BiteChild::from, 0, 1);
        // An IMAGE of a table with nobody is one.
        BiteChild x = new BiteChild();
        x.image(0);
        x.child(0, 0, 0, 0);
        Bounds.due("from(0) of nobody", x.from(0), 1);
        Bounds.due("CHILDREN", x.count(0), 0);
        Bounds.due("from(1)", x.from(1), Bounds.NO);
    }

    private static void status() {
        Bounds.term("STATUS: how many calls were refused as BAD, NO, FULL (each answer told so below is such a one).");
        BiteChild x = Tables.full();
        long[] first = Bounds.statusOf(x);
        int bad = 0;
        for (ToLongFunction<BiteChild> call : badOnes()) {
            call.applyAsLong(x);
            bad++;
            Bounds.due("status(0) behind BAD " + bad, x.status(0), first[0] + bad);
        }
        Bounds.due("calls that may be BAD", bad, 25);
        Bounds.due("status(1) behind BAD ones", x.status(1), first[1]);
        Bounds.due("status(2) behind BAD ones", x.status(2), first[2]);
        x.child(0, 1, 0, 0);
        x.moves(0, 2);
        Bounds.due("status(1) behind NO", x.status(1), first[1] + 2);
        x.child(0, 0, 0, 0);
        x.type(0);
        x.note(0, 0, 0, 0, 0, 0, 0);
        Bounds.due("status(2) behind FULL", x.status(2), first[2] + 3);
        Bounds.due("status(0) behind NO and FULL", x.status(0), first[0] + bad);
        BiteChild none = new BiteChild();
        none.undo();
        none.from(0);
        none.from(1);
        Bounds.due("status(1) of undo, from", none.status(1), 3);
        notCounted();
    }

    private static java.util.List<ToLongFunction<BiteChild>> badOnes() {
        return java.util.List.of(x -> x.table(8), x -> x.child(6, 0, 0, 0), x -> x.type(128), x -> x.minute(0), x -> x.carrot(6),
            x -> x.moves(6, 0), x -> x.woman(8), x -> x.of(6, 0), x -> x.now(6, 0), x -> x.then(61, 0), x -> x.stand(0, 0),
            x -> x.seated(6), x -> x.words(6), x -> x.note(6, 0, 0, 0, 0, 0, 0), x -> x.is(6), x -> x.look(6), x -> x.who(6),
            x -> x.rings(0, 0), x -> x.eyes(11), x -> x.weeks(-1, 0), x -> x.part(2), x -> x.image(2), x -> x.from(2),
            x -> x.status(3), x -> x.count(8));
    }

    /** NONE is an answer, and so is a FAULT: no call is refused by them; and nothing sets STATUS back. */
    private static void notCounted() {
        BiteChild x = new BiteChild();
        x.undo();
        x.type(-1);
        Bounds.due("read()", x.read(), -10);
        Bounds.due("quiet()", x.quiet(), Bounds.NONE);
        Bounds.due("helps()", x.helps(), Bounds.NONE);
        Bounds.due("say()", x.say(), Bounds.NONE);
        x.child(0, 0, 0, 30);
        Bounds.due("now(0, 1)", x.now(0, 1), Bounds.NONE);
        x.child(1, 1, 0, 30);
        Bounds.due("words(1)", x.words(1), Bounds.NONE);
        x.note(0, 0, 0, 0, 0, 0, 60);
        Bounds.due("look(0)", x.look(0), Bounds.NONE);
        x.image(0);
        x.table(0);
        x.from(0);
        Tables.write(x, "table 0;");
        x.read();
        x.forget();
        Bounds.statusIs("behind what is not refused", x, new long[] {1, 1, 0}, Bounds.NONE);
    }

    private static void statusRefused() {
        Bounds.promise(32, "STATUS: BAD (0), NO (1), FULL (2). -1: another what (counts as BAD).");
        Bounds.outside("status", Tables::fresh, BiteChild::status, 0, 2, -1);
        Bounds.outside("status", Tables::full, BiteChild::status, 0, 2, -1);
        Bounds.asked("status(0)", Tables::busy, x -> x.status(0), 1);
        Bounds.asked("status(1)", Tables::busy, x -> x.status(1), 1);
        Bounds.asked("status(2)", Tables::busy, x -> x.status(2), 0);
        BiteChild x = new BiteChild();
        x.status(3);
        x.status(-1);
        Bounds.due("status(0) behind two", x.status(0), 2);
    }

    private static void fraction() {
        Bounds.term("THE FRACTION is 0 by 1 at first; lowest terms, below above 0.");
        BiteChild x = Tables.sixHungry();
        Bounds.due("above at first", x.part(0), 0);
        Bounds.due("below at first", x.part(1), 1);
        for (int c = 0; c <= 10; c++) {
            for (int hers = 0; hers < 8; hers++) {
                x.table(hers);
                for (int i = 0; i < 6; i++) {
                    x.child(Tables.PLAIN, i + 1, 0, 30);
                }
                int biters = x.then(1, Bounds.NONE);
                x.eyes(c);
                long above = x.part(0), below = x.part(1);
                Bounds.holds("below above 0", below > 0);
                Bounds.due("as much as it is", above * 10, below * biters * (10 - c));
                Bounds.due("lowest terms", BigInteger.valueOf(above).gcd(BigInteger.valueOf(below)).longValue(), 1);
                x = new BiteChild();
            }
        }
    }

    private static void partRefused() {
        Bounds.promise(29, "THE FRACTION: above (0), below (1). BAD.");
        Bounds.asked("part(0)", Tables::fresh, x -> x.part(0), 0);
        Bounds.asked("part(1)", Tables::fresh, x -> x.part(1), 1);
        Bounds.outside("part", Tables::fresh, BiteChild::part, 0, 1);
        Bounds.outside("part", Tables::full, BiteChild::part, 0, 1);
    }

    private static void firstOf() {
        Bounds.term("Refused, changing nothing but STATUS, the first of: BAD -2 a number is not as told; NO -3 as told; "
            + "FULL -4 (where others are told they count as these).");
        Bounds.bad("child, all three", Tables::full, x -> x.child(6, 1, 0, 0));
        Bounds.bad("child, all three", Tables::full, x -> x.child(0, 1, 0, 31));
        Bounds.bad("child, BAD and FULL", Tables::full, x -> x.child(0, 0, 21, 0));
        Bounds.bad("child, BAD and NO", Tables::busy, x -> x.child(0, 7, -1, 0));
        Bounds.no("child, NO and FULL", Tables::full, x -> x.child(0, 1, 0, 0));
        Bounds.full("child, FULL alone", Tables::full, x -> x.child(0, 0, 0, 0));
        Bounds.bad("type, BAD and FULL", Tables::full, x -> x.type(-1));
        Bounds.full("type, FULL alone", Tables::full, x -> x.type(127));
        Bounds.bad("note, BAD and FULL", Tables::full, x -> x.note(6, 0, 0, 0, 0, 0, 0));
        Bounds.bad("note, BAD and FULL", Tables::full, x -> x.note(0, 0, 0, 0, 0, 0, 61));
        Bounds.full("note, FULL alone", Tables::full, x -> x.note(0, 0, 0, 0, 0, 0, 60));
        Bounds.bad("moves, BAD and NO", Tables::busy, x -> x.moves(3, 7));
        Bounds.bad("moves, BAD and NO", Tables::busy, x -> x.moves(-1, 0));
        Bounds.no("moves, NO alone", Tables::busy, x -> x.moves(2, 7));
        Bounds.bad("from, BAD and none kept", Tables::fresh, x -> x.from(2));
        Bounds.no("from, NO alone", Tables::fresh, x -> x.from(1));
        Bounds.due("BAD", BiteChild.BAD, -2);
        Bounds.due("NO", BiteChild.NO, -3);
        Bounds.due("FULL", BiteChild.FULL, -4);
        Bounds.due("NONE", BiteChild.NONE, -1);
        Bounds.refused("now counts as BAD", Tables::full, x -> x.now(6, 3), -10, 0);
        Bounds.refused("seated counts as BAD", Tables::full, x -> x.seated(6), -10, 0);
        Bounds.refused("status counts as BAD", Tables::full, x -> x.status(3), -1, 0);
    }

    private static void count() {
        Bounds.promise(33, "How many: 0 CHILDREN, 1 the MINUTE, 2 BITES, 3 LATELY, 4 the SEAT behind which she stands, 5 NOTES, "
            + "6 that may be undone, 7 bytes of THE TEXT. BAD.");
        int[] most = {6, 21, Tables.full().then(0, Bounds.NONE), 0, 4, 6, 8, 150};
        for (int what = 0; what < 8; what++) {
            int which = what;
            if (what != 3) {
                Bounds.asked("count(" + what + ")", Tables::full, x -> x.count(which), most[what]);
            }
            Bounds.asked("count(" + what + ") of a new one", Tables::fresh, x -> x.count(which), 0);
        }
        BiteChild five = Tables.sixHungry();
        five.minute(1);
        Bounds.due("count(3)", five.count(3), 5);
        Bounds.outside("count", Tables::fresh, BiteChild::count, 0, 7);
        Bounds.outside("count", Tables::full, BiteChild::count, 0, 7);
    }

    private static void digest() {
        Bounds.promise(34, "h = 1429; then h = 31 h + v for each v: count(0) to count(7); of CHILDREN KIND, SEAT, WORDS, HUNGER, "
            + "BITTEN; of NOTES i, h, t, w, b, l, x; THE FRACTION.");
        BiteChild x = Tables.full();
        BigInteger h = BigInteger.valueOf(1429);
        for (int what = 0; what < 8; what++) {
            h = with(h, x.count(what));
        }
        for (int i = 0; i < 6; i++) {
            for (int what = 0; what < 5; what++) {
                h = with(h, x.of(i, what));
            }
        }
        for (int i = 0; i < 6; i++) {
            for (int part : new int[] {i, 5 * i, i % 3, 3 * i, i, i, 9 * i}) {
                h = with(h, part);
            }
        }
        h = with(with(h, x.part(0)), x.part(1));
        // It is far beyond what a long holds: what is left of it is its last 64 bits.
        Bounds.holds("it goes round", h.bitLength() > 64);
        Bounds.asked("digest() of a full one", Tables::full, BiteChild::digest, h.longValue());
        BigInteger first = BigInteger.valueOf(1429);
        for (int k = 0; k < 10; k++) {
            first = with(first, k == 9 ? 1 : 0);
        }
        Bounds.asked("digest() of a new one", Tables::fresh, BiteChild::digest, first.longValue());
    }

    private static BigInteger with(BigInteger h, long v) {
        return h.multiply(BigInteger.valueOf(31)).add(BigInteger.valueOf(v));
    }

    private static void calls() {
        Bounds.introduction("An object is used for at most 512 calls after it has been made;");
        BiteChild x = new BiteChild();
        for (int k = 1; k < 512; k++) {
            x.status(3);
        }
        Bounds.due("the 512th call", x.status(0), 511);
        BiteChild y = Tables.biterAndCalm(9);
        for (int k = 3; k < 512; k++) {
            y.minute(1);
        }
        Bounds.due("the 512th call", y.count(1), 509);
    }
}
