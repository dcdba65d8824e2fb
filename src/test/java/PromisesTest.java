/**
 * For each promise of the document: ordinary inputs, its edges, wrong inputs. What is due was worked
 * out by hand, but for the sums of promise 28, which a small script apart from this project told.
 */
final class PromisesTest {
    private static final int NONE = BiteChild.NONE, BAD = BiteChild.BAD, NO = BiteChild.NO, FULL = BiteChild.FULL;
    private static final int PLAIN = 0, TEETHER = 1, TALKER = 2, COPIER = 3, SORE = 4, CALM = 5;
    private static final int MIN = Integer.MIN_VALUE, MAX = Integer.MAX_VALUE;
    private static final Check check = new Check();

    private PromisesTest() { }

    public static void main(String[] args) {
        constants();
        promise1NewObject();
        promise2Table();
        promise3Child();
        promise4Type();
        promise5Clear();
        promise6Read();
        promise6Faults();
        promise6Behind();
        promise6TakesThePlace();
        promise7Minute();
        promise7AllAtOnce();
        promise7Guarded();
        promise7At999();
        promise8Carrot();
        promise9Moves();
        promise10Woman();
        promise11Undo();
        promise11EightAtMost();
        promise12Of();
        promise13Now();
        promise13Kinds();
        promise14Then();
        promise15Quiet();
        promise16Stand();
        promise17Helps();
        promise18Seated();
        promise19Words();
        promise20Say();
        promise21Note();
        promise22Forget();
        promise23Is();
        promise24Look();
        promise25Who();
        promise26Rings();
        promise27Eyes();
        promise28Weeks();
        promise29Part();
        promise30Image();
        promise31From();
        promise32Status();
        promise33Count();
        promise34Digest();
        questionsChangeNothing();
        check.end();
    }

    // ---- helpers

    private static void due(String call, long got, long want) {
        check.due(call, got, want);
    }

    private static void write(BiteChild x, String text) {
        x.clear();
        for (int k = 0; k < text.length(); k++) {
            x.type(text.charAt(k));
        }
    }

    private static void readsAs(String text, int want) {
        BiteChild x = new BiteChild();
        write(x, text);
        due("read of '" + text + "'", x.read(), want);
    }

    private static void faultAt(String text, int place) {
        BiteChild x = biterAndCalm(9);
        x.minute(1);
        write(x, text);
        long before = x.digest();
        due("read of '" + text + "'", x.read(), -10 - place);
        due("digest behind a fault in '" + text + "'", x.digest(), before);
        refusedAre("behind a fault", x, 0, 0, 0);
    }

    /** The last call was refused: nothing but the told count of STATUS is changed. */
    private static void refusedAre(String when, BiteChild x, int bad, int no, int full) {
        due("status(0) " + when, x.status(0), bad);
        due("status(1) " + when, x.status(1), no);
        due("status(2) " + when, x.status(2), full);
    }

    /** Child 0, PLAIN on 4, bites when its hunger is 9; child 1, CALM on 5, never does. */
    private static BiteChild biterAndCalm(int hunger) {
        BiteChild x = new BiteChild();
        x.child(PLAIN, 4, 0, hunger);
        x.child(CALM, 5, 20, 0);
        return x;
    }

    private static BiteChild calmAndBiter(int hunger) {
        BiteChild x = new BiteChild();
        x.child(CALM, 5, 20, 0);
        x.child(PLAIN, 4, 0, hunger);
        return x;
    }

    private static BiteChild sixHungry() {
        BiteChild x = new BiteChild();
        for (int i = 0; i < 6; i++) {
            x.child(PLAIN, i + 1, 0, 30);
        }
        return x;
    }

    private static void numbersAre(String when, BiteChild x, int... want) {
        for (int what = 0; what < want.length; what++) {
            due("count(" + what + ") " + when, x.count(what), want[what]);
        }
    }

    // ---- the promises

    private static void constants() {
        due("NONE", BiteChild.NONE, -1);
        due("BAD", BiteChild.BAD, -2);
        due("NO", BiteChild.NO, -3);
        due("FULL", BiteChild.FULL, -4);
    }

    private static void promise1NewObject() {
        BiteChild x = new BiteChild();
        numbersAre("new", x, 0, 0, 0, 0, 0, 0, 0, 0);
        due("part(0) new", x.part(0), 0);
        due("part(1) new", x.part(1), 1);
        refusedAre("new", x, 0, 0, 0);
        due("from(0) new", x.from(0), NO);
        due("from(1) new", x.from(1), NO);
        due("undo() new", x.undo(), NO);
    }

    private static void promise2Table() {
        BiteChild x = biterAndCalm(9);
        x.woman(2);
        x.eyes(5);
        x.image(1);
        x.minute(3);
        x.note(0, 0, 0, 0, 0, 0, 0);
        x.type(65);
        x.type(200);
        due("table(7)", x.table(7), 2);
        numbersAre("behind table(7)", x, 0, 0, 0, 0, 7, 0, 0, 1);
        due("undo() behind table", x.undo(), NO);
        due("part(0) behind table", x.part(0), 1);
        due("part(1) behind table", x.part(1), 2);
        refusedAre("behind table", x, 1, 1, 0);
        due("of a child that went", x.of(0, 0), BAD);
        due("table(0)", x.table(0), 0);
        due("from(1) behind table", x.from(1), 1);
        due("count(0) from the image", x.count(0), 2);
        long before = x.digest();
        due("table(8)", x.table(8), BAD);
        due("table(-1)", x.table(-1), BAD);
        due("table(MIN)", x.table(MIN), BAD);
        due("table(MAX)", x.table(MAX), BAD);
        due("digest behind refused tables", x.digest(), before);
        refusedAre("behind refused tables", x, 6, 1, 0);
    }

    private static void promise3Child() {
        BiteChild x = new BiteChild();
        due("child least", x.child(0, 0, 0, 0), 0);
        due("child greatest", x.child(5, 7, 20, 30), 1);
        for (int what = 0; what < 5; what++) {
            due("of(0, " + what + ")", x.of(0, what), 0);
        }
        due("of(1, 0)", x.of(1, 0), 5);
        due("of(1, 1)", x.of(1, 1), 7);
        due("of(1, 2)", x.of(1, 2), 20);
        due("of(1, 3)", x.of(1, 3), 30);
        due("of(1, 4)", x.of(1, 4), 0);
        long before = x.digest();
        due("child kind -1", x.child(-1, 1, 0, 0), BAD);
        due("child kind 6", x.child(6, 1, 0, 0), BAD);
        due("child seat -1", x.child(0, -1, 0, 0), BAD);
        due("child seat 8", x.child(0, 8, 0, 0), BAD);
        due("child words -1", x.child(0, 1, -1, 0), BAD);
        due("child words 21", x.child(0, 1, 21, 0), BAD);
        due("child hunger -1", x.child(0, 1, 0, -1), BAD);
        due("child hunger 31", x.child(0, 1, 0, 31), BAD);
        due("child BAD ahead of NO", x.child(0, 7, 0, 31), BAD);
        due("child on 7 again", x.child(0, 7, 0, 0), NO);
        due("digest behind refused children", x.digest(), before);
        refusedAre("behind refused children", x, 9, 1, 0);
        BiteChild six = sixHungry();
        due("child 7th", six.child(0, 0, 0, 0), FULL);
        due("child NO ahead of FULL", six.child(0, 1, 0, 0), NO);
        due("child BAD ahead of all", six.child(6, 1, 0, 0), BAD);
        due("count(0) full", six.count(0), 6);
        refusedAre("of a full table", six, 1, 1, 1);
    }

    private static void promise4Type() {
        BiteChild x = new BiteChild();
        due("type(0)", x.type(0), 1);
        due("type(127)", x.type(127), 2);
        due("type(-1)", x.type(-1), BAD);
        due("type(128)", x.type(128), BAD);
        for (int k = 3; k <= 150; k++) {
            due("type to " + k, x.type(32), k);
        }
        due("type 151st", x.type(32), FULL);
        due("type BAD ahead of FULL", x.type(128), BAD);
        due("count(7) full", x.count(7), 150);
        refusedAre("of a full text", x, 3, 0, 1);
    }

    private static void promise5Clear() {
        BiteChild x = new BiteChild();
        due("clear() of none", x.clear(), 0);
        write(x, "table 0;");
        due("clear()", x.clear(), 8);
        due("count(7) cleared", x.count(7), 0);
        due("type behind clear", x.type(65), 1);
        due("read of A", x.read(), -10);
    }

    private static void promise6Read() {
        readsAs("table 0;", 1);
        readsAs("  table   7 ;  ", 1);
        readsAs("table07;child0 0 0 0;", 2);
        readsAs("table 1;child 5 7 20 30;child 0 0 0 0;carrot 1;carrot 00;", 5);
        readsAs("table0;child0 0 0 0;child0 1 0 0;child0 2 0 0;child0 3 0 0;child0 4 0 0;child0 5 0 0;carrot5;", 8);
        BiteChild x = new BiteChild();
        write(x, "table 3;child 5 7 20 30;carrot 0;child 1 00 09 4;carrot 1;");
        due("read()", x.read(), 5);
        numbersAre("read", x, 2, 0, 0, 0, 3, 0, 0, 58);
        due("read of(0, 0)", x.of(0, 0), 5);
        due("read of(0, 1)", x.of(0, 1), 7);
        due("read of(0, 2)", x.of(0, 2), 20);
        due("read of(0, 3)", x.of(0, 3), 20);
        due("read of(1, 0)", x.of(1, 0), 1);
        due("read of(1, 1)", x.of(1, 1), 0);
        due("read of(1, 2)", x.of(1, 2), 9);
        due("read of(1, 3)", x.of(1, 3), 0);
        StringBuilder full = new StringBuilder("table0;");
        while (full.length() < 150) {
            full.append(' ');
        }
        readsAs(full.toString(), 1);
        full.setCharAt(149, ';');
        readsAs(full.toString(), -10 - 149);
    }

    private static void promise6Faults() {
        faultAt("", 0);
        faultAt("   ", 3);
        faultAt("table", 5);
        faultAt("table ", 6);
        faultAt("table 0", 7);
        faultAt("table 0;child", 13);
        faultAt("table 0;child 1 1 1 1", 21);
        faultAt("table 0;carrot ", 15);
        faultAt(" tables 0;", 1);
        faultAt("tabl", 0);
        faultAt("xable 0;", 0);
        faultAt("tablez 0;", 0);
        faultAt("table 0;zhild 0 0 0 0;", 8);
        faultAt("table 0;tab", 8);
        faultAt("Table 0;", 0);
        faultAt(";table 0;", 0);
        faultAt("5;", 0);
        faultAt("child 0 0 0 0;table 0;", 0);
        faultAt("carrot 0;", 0);
        faultAt("table 0; table 0;", 9);
        faultAt("table table 0;", 6);
        faultAt("table 8;", 6);
        faultAt("table 00 ;;", 10);
        faultAt("table 000;", 6);
        faultAt("table 0 0;", 8);
        faultAt("table -1;", 6);
        faultAt("table 0;100;", 8);
        faultAt("table ;", 6);
        faultAt("table 0\t;", 7);
        faultAt("table 0;child 6 0 0 0;", 14);
        faultAt("table 0;child 0 8 0 0;", 16);
        faultAt("table 0;child 0 0 21 0;", 18);
        faultAt("table 0;child 0 0 0 31;", 20);
        faultAt("table 0;child 0 0 0 300;", 20);
        faultAt("table 0;child 0 0 0 0;child 0 0 0 0;", 30);
        faultAt("table 0;child 0 0 0;", 19);
        faultAt("table 0;child 0 0 0 0 0;", 22);
        faultAt("table 0;carrot 0;", 15);
        faultAt("table 0;child carrot 0;", 14);
        faultAt("table 0;child 0 0 0 0;carrot child 0 1 0 0;", 29);
        faultAt("table 0;child child 0 1 0 0;", 14);
        faultAt("table 0;child 0 0 0 0;carrot 1;", 29);
        faultAt("table 0;carrot 0;child 0 0 0 0;", 15);
        faultAt("table0;child0 0 0 0;child0 1 0 0;child0 2 0 0;child0 3 0 0;child0 4 0 0;child0 5 0 0; child9", 86);
    }

    /** What stood behind a longer text is no part of the shorter one that comes after it. */
    private static void promise6Behind() {
        String[][] texts = {{"table 00;", "table 0"}, {"table 0;", "table 0"}, {"tables", "table"}, {"table 0;xy", "table 0;x"}};
        int[] faults = {7, 7, 5, 8};
        for (int k = 0; k < faults.length; k++) {
            BiteChild x = new BiteChild();
            write(x, texts[k][0]);
            write(x, texts[k][1]);
            due("read of '" + texts[k][1] + "' behind '" + texts[k][0] + "'", x.read(), -10 - faults[k]);
        }
        StringBuilder full = new StringBuilder("table");
        while (full.length() < 149) {
            full.append(' ');
        }
        readsAs(full + "7", -10 - 150);
        readsAs(full + "x", -10 - 149);
    }

    private static void promise6TakesThePlace() {
        BiteChild bare = biterAndCalm(9);
        write(bare, "table 5;");
        due("read() of her alone", bare.read(), 1);
        numbersAre("read of her alone", bare, 0, 0, 0, 0, 5, 0, 0, 8);
        BiteChild x = biterAndCalm(9);
        x.eyes(5);
        x.image(0);
        x.note(1, 1, 1, 1, 1, 1, 1);
        x.minute(2);
        x.undo();
        x.undo();
        x.minute(2);
        write(x, "table 6;child 3 4 1 2;");
        due("read() over another", x.read(), 2);
        numbersAre("read over another", x, 1, 0, 0, 0, 6, 0, 0, 22);
        due("BITTEN behind read", x.of(0, 4), 0);
        due("undo() behind read", x.undo(), NO);
        due("part(1) behind read", x.part(1), 2);
        refusedAre("behind read", x, 0, 2, 0);
        due("from(0) behind read", x.from(0), 1);
        due("count(0) from(0)", x.count(0), 2);
    }

    private static void promise7Minute() {
        BiteChild x = biterAndCalm(9);
        due("minute(1)", x.minute(1), 1);
        numbersAre("behind a minute", x, 2, 1, 1, 1, 0, 0, 1, 0);
        due("HUNGER of the biter", x.of(0, 3), 2);
        due("HUNGER of the bitten", x.of(1, 3), 1);
        due("BITTEN of the bitten", x.of(1, 4), 1);
        due("BITTEN of the biter", x.of(0, 4), 0);
        due("minute(7)", x.minute(7), 0);
        due("LATELY behind quiet ones", x.count(3), 0);
        due("minute(60)", x.minute(60), 8);
        numbersAre("behind 68 minutes", x, 2, 68, 9, 0, 0, 0, 3, 0);
        due("minute(0)", x.minute(0), BAD);
        due("minute(61)", x.minute(61), BAD);
        due("minute(MIN)", x.minute(MIN), BAD);
        refusedAre("behind wrong minutes", x, 3, 0, 0);
        due("count(6) behind wrong minutes", x.count(6), 3);

        BiteChild eleven = biterAndCalm(8);
        due("minute by 11 NEAR", eleven.minute(1), 0);
        BiteChild alone = new BiteChild();
        alone.child(TEETHER, 3, 0, 30);
        due("minute with nobody to bite", alone.minute(1), 0);
        due("HUNGER 30 at most", alone.of(0, 3), 30);
        BiteChild small = new BiteChild();
        small.child(TEETHER, 3, 0, 5);
        small.child(CALM, 2, 20, 0);
        due("minute of a TEETHER", small.minute(1), 1);
        due("HUNGER 0 at least, 1 more", small.of(0, 3), 1);
        due("the one ahead is BITTEN", small.of(1, 4), 1);
    }

    private static void promise7AllAtOnce() {
        BiteChild x = new BiteChild();
        x.child(PLAIN, 4, 0, 9);
        x.child(PLAIN, 5, 0, 30);
        due("both bite", x.minute(1), 2);
        due("BITTEN of 0", x.of(0, 4), 1);
        due("BITTEN of 1", x.of(1, 4), 1);
        due("HUNGER of 0", x.of(0, 3), 2);
        due("HUNGER of 1", x.of(1, 3), 23);
        BiteChild copiers = new BiteChild();
        copiers.child(PLAIN, 3, 0, 20);
        copiers.child(SORE, 4, 0, 4);
        due("SORE does not bite in the minute it is bitten", copiers.minute(1), 1);
        due("SORE is near by BITTEN and LATELY", copiers.now(1, 0), 5 + 3 + 3 + 2);
        due("SORE bites in the next minute", copiers.minute(1), 2);
        BiteChild round = new BiteChild();
        round.table(3);
        round.child(PLAIN, 7, 0, 30);
        round.child(CALM, 0, 20, 0);
        round.child(CALM, 6, 20, 0);
        due("round the table", round.minute(1), 1);
        due("from 7 to 0", round.of(1, 4), 1);
        due("not from 7 to 6", round.of(2, 4), 0);
    }

    private static void promise7Guarded() {
        int[] bites = {1, 1, 1, 0, 0, 0, 1, 1};
        for (int seat = 0; seat < 8; seat++) {
            BiteChild x = biterAndCalm(30);
            x.woman(seat);
            due("minute with her behind " + seat, x.minute(1), bites[seat]);
        }
        BiteChild x = new BiteChild();
        x.child(PLAIN, 7, 0, 30);
        x.child(PLAIN, 0, 0, 30);
        due("7, 0 GUARDED from 0", x.minute(1), 0);
        x.woman(7);
        due("7, 0 GUARDED from 7", x.minute(1), 0);
        x.woman(1);
        due("0 alone GUARDED from 1", x.minute(1), 1);
        due("7 bites 0", x.of(1, 4), 1);
        x.woman(6);
        due("7 alone GUARDED from 6", x.minute(1), 1);
        due("0 bites 7", x.of(0, 4), 1);
    }

    private static void promise7At999() {
        BiteChild x = biterAndCalm(9);
        for (int k = 0; k < 16; k++) {
            x.minute(60);
        }
        due("count(1)", x.count(1), 960);
        x.minute(38);
        due("count(1)", x.count(1), 998);
        int bites = x.count(2);
        due("998 minutes of BITES", bites, 125);
        x.minute(2);
        due("count(1) at most", x.count(1), 999);
        long hunger = x.of(0, 3);
        due("minute(60) at 999", x.minute(60), 0);
        due("count(1) at 999", x.count(1), 999);
        due("HUNGER at 999", x.of(0, 3), hunger);
        due("then at 999 goes on", x.then(60, NONE), 133);
    }

    private static void promise8Carrot() {
        BiteChild x = new BiteChild();
        x.child(PLAIN, 4, 0, 30);
        x.child(PLAIN, 1, 0, 10);
        x.child(PLAIN, 6, 0, 9);
        due("carrot(0)", x.carrot(0), 20);
        due("carrot(1)", x.carrot(1), 0);
        due("carrot(2)", x.carrot(2), 0);
        due("carrot(2) again", x.carrot(2), 0);
        due("HUNGER behind carrot", x.of(0, 3), 20);
        due("count(6) behind carrots", x.count(6), 4);
        due("carrot(3)", x.carrot(3), BAD);
        due("carrot(-1)", x.carrot(-1), BAD);
        due("carrot(MAX)", x.carrot(MAX), BAD);
        due("count(6) behind wrong carrots", x.count(6), 4);
        refusedAre("behind wrong carrots", x, 3, 0, 0);
    }

    private static void promise9Moves() {
        BiteChild x = biterAndCalm(9);
        due("moves(0, 7)", x.moves(0, 7), 4);
        due("SEAT moved", x.of(0, 1), 7);
        due("moves(0, 7) to its own", x.moves(0, 7), 7);
        due("moves(0, 0)", x.moves(0, 0), 7);
        due("count(6) behind moves", x.count(6), 3);
        long before = x.digest();
        due("moves to a taken one", x.moves(0, 5), NO);
        due("moves(0, 8)", x.moves(0, 8), BAD);
        due("moves(0, -1)", x.moves(0, -1), BAD);
        due("moves(2, 5) BAD ahead of NO", x.moves(2, 5), BAD);
        due("moves(-1, 5)", x.moves(-1, 5), BAD);
        due("digest behind refused moves", x.digest(), before);
        refusedAre("behind refused moves", x, 4, 1, 0);
    }

    private static void promise10Woman() {
        BiteChild x = new BiteChild();
        due("woman(7)", x.woman(7), 0);
        due("woman(0)", x.woman(0), 7);
        due("woman(8)", x.woman(8), BAD);
        due("woman(-1)", x.woman(-1), BAD);
        due("count(4)", x.count(4), 0);
        due("count(6) behind woman", x.count(6), 2);
        refusedAre("behind wrong woman", x, 2, 0, 0);
    }

    private static void promise11Undo() {
        BiteChild x = biterAndCalm(9);
        due("undo() of nothing", x.undo(), NO);
        refusedAre("behind undo of nothing", x, 0, 1, 0);
        long first = x.digest();
        x.minute(9);
        due("undo() of minutes", x.undo(), 0);
        due("digest behind undo of minutes", x.digest(), first);
        x.minute(1);
        long second = x.digest();
        x.carrot(0);
        due("undo() of a carrot", x.undo(), 1);
        due("digest behind undo of a carrot", x.digest(), second);
        x.moves(1, 0);
        due("undo() of a seat", x.undo(), 1);
        due("digest behind undo of a seat", x.digest(), second);
        x.woman(5);
        due("undo() of her", x.undo(), 1);
        due("digest behind undo of her", x.digest(), second);
        x.note(0, 0, 0, 0, 0, 0, 0);
        due("undo() of the first minute", x.undo(), 0);
        due("NOTES stay", x.count(5), 1);
        due("LATELY as ahead", x.count(3), 0);
        due("BITTEN as ahead", x.of(1, 4), 0);
        x.woman(3);
        x.child(PLAIN, 2, 0, 0);
        due("undo() behind a CHILD", x.undo(), NO);
        due("count(4) stays", x.count(4), 3);
        x.woman(4);
        x.child(PLAIN, 2, 0, 0);
        due("undo() behind a refused CHILD", x.undo(), 0);
    }

    private static void promise11EightAtMost() {
        BiteChild x = new BiteChild();
        for (int k = 1; k <= 9; k++) {
            x.minute(1);
            due("count(6) behind " + k, x.count(6), Math.min(k, 8));
        }
        for (int k = 8; k >= 1; k--) {
            due("undo() to " + k, x.undo(), k);
        }
        due("undo() of the ninth", x.undo(), NO);
        for (int k = 2; k <= 13; k++) {
            x.minute(1);
        }
        due("undo() behind more", x.undo(), 12);
        x.minute(60);
        due("undo() of 60 together", x.undo(), 12);
        due("undo()", x.undo(), 11);
        due("count(6)", x.count(6), 6);
    }

    private static void promise12Of() {
        BiteChild x = new BiteChild();
        x.child(SORE, 7, 3, 11);
        x.child(COPIER, 0, 4, 12);
        x.child(TALKER, 6, 5, 13);
        x.child(CALM, 3, 6, 14);
        int[] want = {4, 7, 3, 11, 0, 2};
        for (int what = 0; what < 6; what++) {
            due("of(0, " + what + ")", x.of(0, what), want[what]);
        }
        due("TIGHT on 0", x.of(1, 5), 1);
        due("TIGHT on 6", x.of(2, 5), 1);
        due("TIGHT on 3", x.of(3, 5), 0);
        due("of(0, 6)", x.of(0, 6), BAD);
        due("of(0, -1)", x.of(0, -1), BAD);
        due("of(4, 0)", x.of(4, 0), BAD);
        due("of(-1, 0)", x.of(-1, 0), BAD);
        due("of(MIN, MAX)", x.of(MIN, MAX), BAD);
        refusedAre("behind wrong of", x, 5, 0, 0);
    }

    private static void promise13Now() {
        BiteChild x = new BiteChild();
        x.child(PLAIN, 3, 0, 8);
        due("now whom, alone", x.now(0, 1), NONE);
        due("now bites, alone", x.now(0, 2), 0);
        x.child(PLAIN, 2, 0, 9);
        due("now whom, ahead", x.now(0, 1), 1);
        x.child(PLAIN, 4, 0, 8);
        due("now whom, next first", x.now(0, 1), 2);
        due("now NEAR, TIGHT 2", x.now(0, 0), 14);
        due("now bites, 14", x.now(0, 2), 1);
        due("now bites, 12", x.now(1, 2), 1);
        due("now bites, 11", x.now(2, 2), 0);
        x.woman(4);
        due("now NEAR, GUARDED", x.now(0, 0), 14);
        due("now bites, GUARDED", x.now(0, 2), 0);
        due("now(0, 3)", x.now(0, 3), -10);
        due("now(0, -1)", x.now(0, -1), -10);
        due("now(3, 0)", x.now(3, 0), -10);
        due("now(-1, 0)", x.now(-1, 0), -10);
        refusedAre("behind wrong now", x, 4, 0, 0);
    }

    private static void promise13Kinds() {
        int[] near = {8, 12, 6, 8, 8, 3};
        for (int kind = 0; kind < 6; kind++) {
            BiteChild x = new BiteChild();
            x.child(kind, 4, 5, 10);
            due("NEAR of KIND " + kind, x.now(0, 0), near[kind]);
        }
        // The one on 3 bites the one on 4, whom she guards: BITTEN 1, LATELY 1, HUNGER 12 behind it.
        int[] bitten = {14, 18, 10, 17, 19, 5};
        for (int kind = 0; kind < 6; kind++) {
            BiteChild x = new BiteChild();
            x.child(kind, 4, 9, 11);
            x.child(PLAIN, 3, 0, 30);
            x.child(CALM, 5, 20, 0);
            x.woman(5);
            due("BITES by 3", x.minute(1), 1);
            due("NEAR when BITTEN of KIND " + kind, x.now(0, 0), bitten[kind]);
        }
        int[] low = {0, 4, 0, 0, 0, 0};
        for (int kind = 0; kind < 6; kind++) {
            BiteChild x = new BiteChild();
            x.child(kind, 4, 20, 9);
            due("NEAR 0 at least of KIND " + kind, x.now(0, 0), low[kind]);
        }
        BiteChild talker = new BiteChild();
        talker.child(TALKER, 4, 10, 9);
        due("NEAR 0 at least again", talker.now(0, 0), 0);
    }

    private static void promise14Then() {
        BiteChild x = biterAndCalm(9);
        int[] minutes = {0, 1, 8, 9, 16, 17, 60};
        int[] bites = {0, 1, 1, 2, 2, 3, 8};
        for (int k = 0; k < minutes.length; k++) {
            due("then(" + minutes[k] + ", NONE)", x.then(minutes[k], NONE), bites[k]);
            due("then(" + minutes[k] + ", 1)", x.then(minutes[k], 1), bites[k]);
            due("then(" + minutes[k] + ", 0)", x.then(minutes[k], 0), 0);
        }
        x.minute(1);
        due("then with those up to now", x.then(8, NONE), 2);
        due("then with BITTEN up to now", x.then(0, 1), 1);
        due("then(61, NONE)", x.then(61, NONE), BAD);
        due("then(-1, NONE)", x.then(-1, NONE), BAD);
        due("then(0, 2)", x.then(0, 2), BAD);
        due("then(0, -2)", x.then(0, -2), BAD);
        refusedAre("behind wrong then", x, 4, 0, 0);
    }

    private static void promise15Quiet() {
        due("quiet() now", biterAndCalm(9).quiet(), 1);
        due("quiet() from 0", biterAndCalm(0).quiet(), 10);
        due("quiet() with nobody", new BiteChild().quiet(), NONE);
        // A CALM one with 4 words bites by a hunger of 25: from 0 in the 26th minute.
        BiteChild slow = new BiteChild();
        slow.child(CALM, 4, 4, 0);
        slow.child(CALM, 5, 20, 0);
        due("quiet() long", slow.quiet(), 26);
        BiteChild never = biterAndCalm(9);
        never.woman(4);
        due("quiet() GUARDED", never.quiet(), NONE);
    }

    private static void promise16Stand() {
        BiteChild x = biterAndCalm(9);
        x.minute(1);
        due("stand(7, 0), none come", x.stand(7, 0), 0);
        due("stand(7, 1)", x.stand(7, 1), 0);
        due("stand(8, 0)", x.stand(8, 0), 3);
        due("stand(8, 1), those that come alone", x.stand(8, 1), 0);
        due("stand(60, 0)", x.stand(60, 0), 3);
        BiteChild far = new BiteChild();
        far.child(PLAIN, 7, 0, 30);
        far.child(PLAIN, 0, 0, 30);
        far.child(PLAIN, 3, 0, 30);
        far.child(PLAIN, 4, 0, 30);
        due("stand(1, 0) round", far.stand(1, 0), 0);
        due("stand(1, 1) round", far.stand(1, 1), 2);
        due("she stays", far.count(4), 0);
        due("stand(1, 0) of none", new BiteChild().stand(1, 0), 0);
        due("stand(0, 0)", x.stand(0, 0), BAD);
        due("stand(61, 0)", x.stand(61, 0), BAD);
        due("stand(1, 2)", x.stand(1, 2), BAD);
        due("stand(1, -1)", x.stand(1, -1), BAD);
        refusedAre("behind wrong stand", x, 4, 0, 0);
    }

    private static void promise17Helps() {
        due("helps() at once", biterAndCalm(9).helps(), 0);
        due("helps() in 3 minutes", biterAndCalm(0).helps(), 3);
        due("helps() in 3 minutes, child 1", calmAndBiter(0).helps(), 13);
        due("helps() with nobody", new BiteChild().helps(), NONE);
        BiteChild never = biterAndCalm(9);
        never.woman(4);
        due("helps() of none fewer", never.helps(), NONE);
    }

    private static void seatsAre(String when, BiteChild x, int fewest, int... seats) {
        due("seated(NONE) " + when, x.seated(NONE), fewest);
        for (int i = 0; i < seats.length; i++) {
            due("seated(" + i + ") " + when, x.seated(i), seats[i]);
        }
    }

    private static void promise18Seated() {
        seatsAre("with nobody", new BiteChild(), 0);
        seatsAre("both GUARDED", biterAndCalm(9), 0, 0, 1);
        BiteChild apart = calmAndBiter(30);
        apart.woman(4);
        seatsAre("apart", apart, 0, 0, 2);
        due("they stay", apart.of(1, 1), 4);
        seatsAre("six hungry", sixHungry(), 2, 0, 1, 2, 3, 5, 7);
        BiteChild x = sixHungry();
        due("seated(6)", x.seated(6), -10);
        due("seated(-2)", x.seated(-2), -10);
        due("seated(MIN)", x.seated(MIN), -10);
        refusedAre("behind wrong seated", x, 3, 0, 0);
    }

    private static void promise19Words() {
        due("words of 12", biterAndCalm(9).words(0), 2);
        due("words of 11", biterAndCalm(8).words(0), 0);
        due("words of 31", biterAndCalm(28).words(0), 40);
        due("words of 32", biterAndCalm(29).words(0), NONE);
        BiteChild x = new BiteChild();
        x.child(PLAIN, 4, 19, 30);
        due("words of 21, beyond 20", x.words(0), 19);
        due("WORDS stay", x.of(0, 2), 19);
        BiteChild calm = new BiteChild();
        calm.child(CALM, 4, 0, 24);
        due("words of a CALM one", calm.words(0), 2);
        due("words(1)", x.words(1), BAD);
        due("words(-1)", x.words(-1), BAD);
        refusedAre("behind wrong words", x, 2, 0, 0);
    }

    private static void promise20Say() {
        due("say() first", biterAndCalm(9).say(), 0);
        due("say() second", calmAndBiter(9).say(), 1);
        due("say() with nobody", new BiteChild().say(), NONE);
        BiteChild quiet = calmAndBiter(9);
        quiet.woman(4);
        due("say() of like ones", quiet.say(), 0);
    }

    private static void promise21Note() {
        BiteChild x = biterAndCalm(9);
        due("note least", x.note(0, 0, 0, 0, 0, 0, 0), 1);
        due("note greatest", x.note(1, 30, 2, 20, 9, 6, 60), 2);
        int[][] wrong = {{2, 0, 0, 0, 0, 0, 0}, {-1, 0, 0, 0, 0, 0, 0}, {0, 31, 0, 0, 0, 0, 0}, {0, -1, 0, 0, 0, 0, 0},
            {0, 0, 3, 0, 0, 0, 0}, {0, 0, -1, 0, 0, 0, 0}, {0, 0, 0, 21, 0, 0, 0}, {0, 0, 0, -1, 0, 0, 0},
            {0, 0, 0, 0, 10, 0, 0}, {0, 0, 0, 0, -1, 0, 0}, {0, 0, 0, 0, 0, 7, 0}, {0, 0, 0, 0, 0, -1, 0},
            {0, 0, 0, 0, 0, 0, 61}, {0, 0, 0, 0, 0, 0, -1}};
        long before = x.digest();
        for (int[] n : wrong) {
            due("wrong note", x.note(n[0], n[1], n[2], n[3], n[4], n[5], n[6]), BAD);
        }
        due("digest behind wrong notes", x.digest(), before);
        for (int k = 3; k <= 6; k++) {
            due("note " + k, x.note(0, 0, 0, 0, 0, 0, 0), k);
        }
        due("note 7th", x.note(0, 0, 0, 0, 0, 0, 0), FULL);
        due("note BAD ahead of FULL", x.note(0, 0, 0, 0, 0, 0, 61), BAD);
        due("count(5)", x.count(5), 6);
        refusedAre("behind wrong notes", x, 15, 0, 1);
    }

    private static void promise22Forget() {
        BiteChild x = biterAndCalm(9);
        due("forget() of none", x.forget(), 0);
        x.note(0, 0, 0, 0, 0, 0, 9);
        x.note(1, 0, 0, 0, 0, 0, 9);
        due("forget()", x.forget(), 2);
        due("count(5) forgotten", x.count(5), 0);
        due("is(0) forgotten", x.is(0), 63);
        due("note behind forget", x.note(0, 0, 0, 0, 0, 0, 0), 1);
    }

    private static void isBy(int want, int h, int t, int w, int b, int l, int x) {
        BiteChild child = biterAndCalm(9);
        child.note(1, h, t, w, b, l, x);
        due("is(1) by a note of " + x, child.is(1), want);
        due("is(0) by none", child.is(0), 63);
    }

    private static void promise23Is() {
        int[] near = {11, 15, 9, 14, 18, 4};
        for (int kind = 0; kind < 6; kind++) {
            isBy(1 << kind, 10, 1, 5, 2, 1, near[kind]);
        }
        isBy(0, 10, 1, 5, 2, 1, 10);
        isBy(61, 0, 0, 20, 0, 0, 0);
        isBy(2, 0, 0, 20, 0, 0, 4);
        isBy(25, 6, 0, 10, 0, 0, 1);
        isBy(36, 6, 0, 10, 0, 0, 0);
        BiteChild x = biterAndCalm(9);
        x.note(0, 10, 0, 0, 0, 0, 10);
        due("is(0), unlike TEETHER, CALM", x.is(0), 1 + 4 + 8 + 16);
        x.note(1, 10, 0, 0, 0, 0, 5);
        due("is(0) by its own alone", x.is(0), 1 + 4 + 8 + 16);
        x.note(0, 10, 0, 0, 1, 1, 13);
        due("is(0) by two", x.is(0), 8);
        due("is(1)", x.is(1), 32);
        due("is(2)", x.is(2), BAD);
        due("is(-1)", x.is(-1), BAD);
        refusedAre("behind wrong is", x, 2, 0, 0);
    }

    private static void promise24Look() {
        BiteChild x = new BiteChild();
        x.child(PLAIN, 4, 5, 10);
        due("look(0) of all", x.look(0), 101);
        x.note(0, 10, 0, 5, 0, 1, 11);
        due("is(0)", x.is(0), 24);
        due("look(0) of COPIER, SORE", x.look(0), 1);
        x.note(0, 10, 0, 5, 1, 1, 13);
        due("look(0) of SORE alone", x.look(0), 0);
        x.note(0, 10, 0, 5, 0, 0, 0);
        due("look(0) of none", x.look(0), NONE);
        x.forget();
        // PLAIN, COPIER, SORE fit; only LATELY and BITTEN tell them apart.
        x.note(0, 10, 0, 5, 0, 0, 8);
        due("look(0) of three", x.look(0), 101);
        // With 20 words and a hunger of 15, TALKER and CALM are both 0 NEAR until it is TIGHT 2.
        BiteChild calm = new BiteChild();
        calm.child(CALM, 4, 20, 15);
        calm.note(0, 0, 0, 2, 0, 0, 0);
        calm.note(0, 20, 0, 20, 0, 0, 0);
        due("is TALKER or CALM", calm.is(0), 36);
        due("look(0) of TIGHT", calm.look(0), 20);
        due("look(1)", calm.look(1), BAD);
        due("look(-1)", calm.look(-1), BAD);
        refusedAre("behind wrong look", calm, 2, 0, 0);
    }

    private static void promise25Who() {
        BiteChild x = new BiteChild();
        x.child(CALM, 0, 20, 0);
        due("who(0) alone", x.who(0), 0);
        x.child(CALM, 7, 20, 0);
        x.child(CALM, 1, 20, 0);
        x.child(CALM, 4, 20, 0);
        due("who(0)", x.who(0), 2 + 4);
        due("who(1)", x.who(1), 0);
        due("who(2)", x.who(2), 1);
        due("who(3)", x.who(3), 0);
        due("who(4)", x.who(4), BAD);
        due("who(-1)", x.who(-1), BAD);
        refusedAre("behind wrong who", x, 2, 0, 0);
    }

    private static void promise26Rings() {
        BiteChild x = sixHungry();
        due("rings(0, 1)", x.rings(0, 1), 8);
        due("rings(5, 2)", x.rings(5, 2), 8);
        due("rings of the calm", biterAndCalm(0).rings(0, 1), 8);
        due("rings(2, 2)", x.rings(2, 2), BAD);
        due("rings(0, 6)", x.rings(0, 6), BAD);
        due("rings(6, 0)", x.rings(6, 0), BAD);
        due("rings(-1, 0)", x.rings(-1, 0), BAD);
        due("rings(0, -1)", x.rings(0, -1), BAD);
        refusedAre("behind wrong rings", x, 5, 0, 0);
    }

    private static void eyesAre(BiteChild x, int c, int above, int below) {
        due("eyes(" + c + ")", x.eyes(c), 1);
        due("above by eyes(" + c + ")", x.part(0), above);
        due("below by eyes(" + c + ")", x.part(1), below);
    }

    private static void promise27Eyes() {
        BiteChild one = biterAndCalm(9);
        eyesAre(one, 0, 1, 1);
        eyesAre(one, 1, 9, 10);
        eyesAre(one, 2, 4, 5);
        eyesAre(one, 5, 1, 2);
        eyesAre(one, 10, 0, 1);
        eyesAre(new BiteChild(), 4, 0, 1);
        BiteChild five = sixHungry();
        eyesAre(five, 3, 7, 2);
        eyesAre(five, 0, 5, 1);
        due("eyes(11)", five.eyes(11), BAD);
        due("eyes(-1)", five.eyes(-1), BAD);
        due("part(0) behind wrong eyes", five.part(0), 5);
        refusedAre("behind wrong eyes", five, 2, 0, 0);
    }

    private static void promise28Weeks() {
        BiteChild x = new BiteChild();
        due("weeks with nobody", x.weeks(5, 60), 0);
        x.child(PLAIN, 3, 0, 0);
        x.child(PLAIN, 4, 0, 30);
        int[][] want = {{0, 0, 0}, {0, 1, 2}, {0, 2, 3}, {0, 3, 6}, {0, 60, 179}, {1, 3, 8}, {7, 2, 4}, {999999, 1, 2},
            {999999, 60, 187}};
        for (int[] w : want) {
            due("weeks(" + w[0] + ", " + w[1] + ")", x.weeks(w[0], w[1]), w[2]);
        }
        x.minute(1);
        due("weeks without those up to now", x.weeks(0, 1), 2);
        due("weeks(-1, 0)", x.weeks(-1, 0), BAD);
        due("weeks(1000000, 0)", x.weeks(1000000, 0), BAD);
        due("weeks(0, -1)", x.weeks(0, -1), BAD);
        due("weeks(0, 61)", x.weeks(0, 61), BAD);
        refusedAre("behind wrong weeks", x, 4, 0, 0);
    }

    private static void promise29Part() {
        BiteChild x = biterAndCalm(9);
        x.eyes(4);
        due("part(0)", x.part(0), 3);
        due("part(1)", x.part(1), 5);
        due("part(2)", x.part(2), BAD);
        due("part(-1)", x.part(-1), BAD);
        refusedAre("behind wrong part", x, 2, 0, 0);
    }

    private static void promise30Image() {
        BiteChild x = biterAndCalm(9);
        due("image(0)", x.image(0), 1);
        due("image(1)", x.image(1), 1);
        due("image(2)", x.image(2), BAD);
        due("image(-1)", x.image(-1), BAD);
        x.minute(5);
        due("image(0) over another", x.image(0), 1);
        x.table(0);
        x.from(0);
        due("count(1) from the later", x.count(1), 5);
        x.from(1);
        due("count(1) from the earlier", x.count(1), 0);
        refusedAre("behind wrong image", x, 2, 0, 0);
    }

    private static void promise31From() {
        BiteChild x = biterAndCalm(9);
        x.minute(1);
        x.woman(6);
        x.note(1, 2, 1, 4, 5, 6, 7);
        x.image(0);
        long kept = x.digest();
        due("from(1) of none", x.from(1), NO);
        due("from(2)", x.from(2), BAD);
        due("from(-1)", x.from(-1), BAD);
        x.minute(9);
        x.moves(0, 1);
        x.forget();
        x.child(SORE, 3, 3, 3);
        due("from(0)", x.from(0), 1);
        due("digest from(0)", x.digest(), kept);
        due("undo() from(0)", x.undo(), 1);
        due("count(4) undone", x.count(4), 0);
        due("undo() from(0) again", x.undo(), 0);
        due("undo() from(0) at its end", x.undo(), NO);
        due("from(0) again", x.from(0), 1);
        due("digest from(0) again", x.digest(), kept);
        x.type(65);
        x.eyes(0);
        x.table(0);
        x.eyes(0);
        due("from(0) with a text", x.from(0), 1);
        due("THE TEXT stays", x.count(7), 1);
        due("THE FRACTION stays", x.part(0), 0);
        refusedAre("behind from", x, 2, 2, 0);
    }

    private static void promise32Status() {
        BiteChild x = new BiteChild();
        x.undo();
        x.undo();
        x.now(0, 0);
        x.seated(0);
        x.read();
        x.quiet();
        x.helps();
        x.say();
        due("status(0)", x.status(0), 2);
        due("status(1)", x.status(1), 2);
        due("status(2)", x.status(2), 0);
        due("status(3)", x.status(3), -1);
        due("status(-1)", x.status(-1), -1);
        due("status(MAX)", x.status(MAX), -1);
        due("status(0) behind wrong ones", x.status(0), 5);
    }

    private static void promise33Count() {
        BiteChild x = biterAndCalm(9);
        x.minute(1);
        x.woman(6);
        x.note(0, 0, 0, 0, 0, 0, 0);
        x.note(0, 0, 0, 0, 0, 0, 0);
        x.note(0, 0, 0, 0, 0, 0, 0);
        write(x, "abcde");
        numbersAre("of all", x, 2, 1, 1, 1, 6, 3, 2, 5);
        due("count(8)", x.count(8), BAD);
        due("count(-1)", x.count(-1), BAD);
        refusedAre("behind wrong count", x, 2, 0, 0);
    }

    private static long fold(long... values) {
        long h = 1429;
        for (long v : values) {
            h = 31 * h + v;
        }
        return h;
    }

    private static void promise34Digest() {
        BiteChild x = new BiteChild();
        due("digest() new", x.digest(), fold(0, 0, 0, 0, 0, 0, 0, 0, 0, 1));
        x.child(PLAIN, 4, 0, 9);
        x.child(CALM, 5, 20, 0);
        x.minute(1);
        x.woman(6);
        x.note(1, 2, 1, 4, 5, 6, 7);
        x.note(0, 30, 2, 20, 9, 3, 60);
        x.type(65);
        x.moves(0, 4);
        x.carrot(0);
        due("digest()", x.digest(), fold(2, 1, 1, 1, 6, 2, 4, 1, 0, 4, 0, 0, 0, 5, 5, 20, 1, 1,
            1, 2, 1, 4, 5, 6, 7, 0, 30, 2, 20, 9, 3, 60, 0, 1));
        BiteChild y = biterAndCalm(9);
        y.eyes(1);
        due("digest() with a fraction", y.digest(), fold(2, 0, 0, 0, 0, 0, 0, 0, 0, 4, 0, 9, 0, 5, 5, 20, 0, 0, 9, 10));
        due("digest() again", y.digest(), y.digest());
    }

    private static void questionsChangeNothing() {
        BiteChild x = sixHungry();
        x.minute(3);
        x.note(0, 1, 1, 1, 1, 1, 1);
        long before = x.digest();
        x.then(60, NONE);
        x.quiet();
        x.stand(60, 0);
        x.helps();
        x.seated(NONE);
        x.seated(5);
        x.words(0);
        x.say();
        x.is(0);
        x.look(0);
        x.who(0);
        x.rings(0, 1);
        x.weeks(7, 60);
        x.of(0, 5);
        x.now(0, 0);
        due("digest behind questions", x.digest(), before);
        refusedAre("behind questions", x, 0, 0, 0);
    }
}
