/** Boundary cases of THE TEXT, empty and full, and each FAULT of read. */
final class TextBounds {
    private static final String SIX = "table0;child0 0 0 0;child0 1 0 0;child0 2 0 0;child0 3 0 0;child0 4 0 0;child0 5 0 0;";

    private TextBounds() { }

    static void all() {
        bytesAtMost();
        tableItem();
        childItem();
        carrotItem();
        tokens();
        everyByte();
        firstByteOfTheFirst();
        aWordThatIsNone();
        tableAgain();
        aheadOfIt();
        seventhChild();
        threeFigures();
        numberNotAsTold();
        seatThatIsTaken();
        childNotThereYet();
        byteThatBeginsNone();
        endsTooEarly();
        everyCut();
        takesThePlace();
        typed();
        typeRefused();
        cleared();
        readTaken();
        readLeavesAll();
    }

    private static void reads(String text, int items) {
        Bounds.taken("read() of '" + text + "'", () -> Tables.written(text), BiteChild::read, items);
    }

    /** All stays behind it; a FAULT is none of what STATUS counts. */
    private static void faultAt(String text, int place) {
        Bounds.asked("read() of '" + text + "'", () -> busyWith(text), BiteChild::read, -10 - place);
        Bounds.asked("read() of '" + text + "', nobody there", () -> Tables.written(text), BiteChild::read, -10 - place);
    }

    private static BiteChild busyWith(String text) {
        BiteChild x = Tables.busy();
        Tables.write(x, text);
        return x;
    }

    private static String filled(String text, int length) {
        StringBuilder filled = new StringBuilder(text);
        while (filled.length() < length) {
            filled.append(' ');
        }
        return filled.toString();
    }

    private static void bytesAtMost() {
        Bounds.term("THE TABLE is told by a TEXT (150 bytes at most) of ITEMS, each ended by ; :");
        reads(Tables.fullText(), 12);
        reads(filled("table 0", 149) + ";", 1);
        reads(filled("table 0;", 150), 1);
        faultAt(filled("table 0;", 149) + ";", 149);
        faultAt(filled("table 0;", 149) + "x", 149);
        faultAt(filled("table 0", 150), 150);
        faultAt(filled("table 0;child 0 0 0", 149) + "0", 150);
        faultAt("table 0 child 0 0 0 0;", 8);
        faultAt("table 0;;", 8);
        faultAt("table 0;child 0 0 0 0;;", 22);
        faultAt("table 0;child 0 0 0 0 child 0 1 0 0;", 22);
        // A byte that was refused is no part of it, and what stood behind a shorter text is not either.
        BiteChild x = Tables.written(filled("table 0;", 150));
        x.type('x');
        Bounds.due("read() behind a refused byte", x.read(), 1);
        BiteChild shorter = Tables.written("table 0;child 0 0 0 0;");
        Tables.write(shorter, "table 0");
        Bounds.due("read() of what is shorter", shorter.read(), -10 - 7);
        Tables.write(shorter, "table 01");
        Tables.write(shorter, "table 0;");
        Bounds.due("read() of as many", shorter.read(), 1);
    }

    private static void tableItem() {
        Bounds.term("table SEAT (THE WOMAN's; once, first of all);");
        for (int seat = 0; seat < 8; seat++) {
            BiteChild x = busyWith("table " + seat + ";");
            Bounds.due("read() of SEAT " + seat, x.read(), 1);
            Bounds.due("her SEAT", x.count(4), seat);
            Bounds.due("CHILDREN", x.count(0), 0);
        }
        faultAt("table 8;", 6);
        faultAt("table 10;", 6);
        faultAt("table 99;", 6);
        faultAt("table;", 5);
        faultAt("table 1 2;", 8);
    }

    private static void childItem() {
        Bounds.term("child KIND SEAT WORDS HUNGER;");
        BiteChild x = Tables.written("table 1;child 5 7 20 30;child 0 0 0 0;child 3 4 11 9;");
        Bounds.due("read()", x.read(), 4);
        int[][] want = {{5, 7, 20, 30, 0}, {0, 0, 0, 0, 0}, {3, 4, 11, 9, 0}};
        for (int i = 0; i < 3; i++) {
            for (int what = 0; what < 5; what++) {
                Bounds.due("of(" + i + ", " + what + ")", x.of(i, what), want[i][what]);
            }
        }
        faultAt("table 0;child ;", 14);
        faultAt("table 0;child 0;", 15);
        faultAt("table 0;child 0 0;", 17);
        faultAt("table 0;child 0 0 0;", 19);
        faultAt("table 0;child 0 0 0 0 0;", 22);
    }

    private static void carrotItem() {
        Bounds.term("carrot i (HUNGER is 10 less, 0 at least).");
        int[] hungers = {0, 9, 10, 11, 30};
        int[] want = {0, 0, 0, 1, 20};
        for (int k = 0; k < want.length; k++) {
            BiteChild x = Tables.written("table 0;child 0 0 0 9;child 0 4 0 " + hungers[k] + ";carrot 1;");
            Bounds.due("read()", x.read(), 4);
            Bounds.due("HUNGER behind a carrot at " + hungers[k], x.of(1, 3), want[k]);
            Bounds.due("HUNGER of the other", x.of(0, 3), 9);
            Bounds.due("that may be undone", x.count(6), 0);
        }
        BiteChild x = Tables.written("table 0;child 0 4 0 25;carrot 0;carrot 00;child 0 1 0 30;");
        Bounds.due("read() of two carrots", x.read(), 5);
        Bounds.due("HUNGER behind two carrots", x.of(0, 3), 5);
        Bounds.due("HUNGER of one that comes behind them", x.of(1, 3), 30);
        faultAt("table 0;child 0 4 0 25;carrot;", 29);
        faultAt("table 0;child 0 4 0 25;carrot 0 0;", 32);
    }

    private static void tokens() {
        Bounds.term("TOKENS: words of letters a .. z, figures (1 or 2 are one number), ; ; blanks (32) between.");
        reads("table 0;", 1);
        reads("table 00;", 1);
        reads("table 07 ;", 1);
        reads("   table   7   ;   ", 1);
        reads("table0;child0 0 0 0;carrot0;", 3);
        reads("table0;child00 07 20 30;carrot00;", 3);
        faultAt("table 0 7;", 8);
        faultAt("ta ble 0;", 0);
        faultAt("table 0;child 0 0 2 1 0;", 22);
        faultAt("Table 0;", 0);
        faultAt("tAble 0;", 0);
        faultAt("tablE 0;", 0);
        faultAt("table0child0 0 0 0;", 6);
    }

    /** Each byte in each kind of place: where a word is due, within a word, where a number or a ; is. */
    private static void everyByte() {
        for (int c = 0; c < 128; c++) {
            String sign = String.valueOf((char) c);
            boolean letter = c >= 'a' && c <= 'z';
            boolean figure = c >= '0' && c <= '9';
            Bounds.due("byte " + c + " behind an ITEM", Tables.written("table 0;" + sign).read(), c == ' ' ? 1 : -18);
            Bounds.due("byte " + c + " ahead of all", Tables.written(sign + "table 0;").read(), c == ' ' ? 1 : -10);
            int inWord = letter ? -10 : c == ' ' || c == '0' ? 1 : -15;
            Bounds.due("byte " + c + " behind a word", Tables.written("table" + sign + "0;").read(), inWord);
            int number = figure && c <= '7' ? 1 : c == ' ' ? -17 : -16;
            Bounds.due("byte " + c + " for a number", Tables.written("table " + sign + ";").read(), number);
            // Behind 0 a figure is one number with it; else it must be the ; that is due.
            int behind = c == ';' ? 1 : c == ' ' ? -18 : !figure ? -17 : c <= '7' ? -18 : -16;
            Bounds.due("byte " + c + " for a ;", Tables.written("table 0" + sign).read(), behind);
        }
    }

    private static void firstByteOfTheFirst() {
        Bounds.term("FAULT: the place of the first byte of the first TOKEN that can not stand there");
        faultAt("xyz", 0);
        faultAt("  xyz", 2);
        faultAt("table   xyz;", 8);
        faultAt("table 8;child 9 9 99 99;", 6);
        faultAt("table 0;child 6 8 21 31;", 14);
        faultAt("table 0;child 5 8 21 31;", 16);
        faultAt("table 0;child 5 7 21 31;", 18);
        faultAt("table 0;child 5 7 20 31;", 21);
        faultAt("table 0;  carrot  9", 18);
        faultAt("table 0;x;table 0;", 8);
    }

    private static void aWordThatIsNone() {
        Bounds.term("a word that is none,");
        String[] none = {"tabl", "tables", "ablet", "xable", "tabla", "t", "z", "chil", "childs", "chold", "hild", "carro",
            "carrots", "karrot", "tablechild", "childtable", "aaaaa", "zzzzzz"};
        for (String word : none) {
            faultAt(word + " 0;", 0);
            faultAt("table 0;" + word + " 0 0 0 0;", 8);
            faultAt("table " + word + ";", 6);
            faultAt("table 0 " + word, 8);
        }
        faultAt("table table;", 6);
        faultAt("table 0;child child 0 0 0;", 14);
        faultAt("table 0;child 0 0 0 carrot;", 20);
        faultAt("table 0 table;", 8);
        faultAt("table 0;child 0 0 0 0;carrot child 0 1 0 0;", 29);
        faultAt("table 0;child carrot 0;", 14);
        faultAt("table 0;child 0 0 0 0;carrot carrot;", 29);
    }

    private static void tableAgain() {
        Bounds.term("table again,");
        faultAt("table 0;table 0;", 8);
        faultAt("table 0; table 0;", 9);
        faultAt("table 0;child 0 0 0 0;table 0;", 22);
        faultAt("table 0;child 0 0 0 0;carrot 0;table", 31);
    }

    private static void aheadOfIt() {
        Bounds.term("anything ahead of it,");
        faultAt(";table 0;", 0);
        faultAt("0;table 0;", 0);
        faultAt(" 0 table 0;", 1);
        faultAt("child 0 0 0 0;table 0;", 0);
        faultAt("carrot 0;table 0;", 0);
        faultAt("child 0 0 0 0;", 0);
        faultAt("carrot 0;", 0);
        faultAt("x table 0;", 0);
        faultAt("!table 0;", 0);
    }

    private static void seventhChild() {
        Bounds.term("a 7th child at its word,");
        reads(SIX, 7);
        faultAt(SIX + "child0 6 0 0;", 85);
        faultAt(SIX + " child", 86);
        faultAt(SIX + "child9 9 99 99;", 85);
        faultAt(SIX + "carrot5;child0 6 0 0;", 93);
        reads(SIX + "carrot5;", 8);
    }

    private static void threeFigures() {
        Bounds.term("a run of three figures or more (at its first one),");
        faultAt("table 000;", 6);
        faultAt("table 007;", 6);
        faultAt("table 0000;", 6);
        faultAt("table000", 5);
        faultAt("table 100000000000000000000000000000000000000000000;", 6);
        faultAt("table 0;child 000 0 0 0;", 14);
        faultAt("table 0;child 0 000 0 0;", 16);
        faultAt("table 0;child 0 0 020 0;", 18);
        faultAt("table 0;child 0 0 0 030;", 20);
        faultAt("table 0;child 0 0 0 0;carrot 000;", 29);
        faultAt("table 0;123", 8);
        faultAt("table 0 123", 8);
        faultAt("123", 0);
    }

    private static void numberNotAsTold() {
        Bounds.term("a number not as told,");
        reads("table 7;child 5 7 20 30;", 2);
        faultAt("table 8;", 6);
        faultAt("table 0;child 6 0 0 0;", 14);
        faultAt("table 0;child 0 8 0 0;", 16);
        faultAt("table 0;child 0 0 21 0;", 18);
        faultAt("table 0;child 0 0 0 31;", 20);
        faultAt("table 0;child 99 0 0 0;", 14);
        faultAt("table 0;child 0 99 0 0;", 16);
        faultAt("table 0;child 0 0 99 0;", 18);
        faultAt("table 0;child 0 0 0 99;", 20);
        faultAt("table -1;", 6);
        faultAt("table 0;5", 8);
    }

    private static void seatThatIsTaken() {
        Bounds.term("also a SEAT that is taken,");
        reads("table 0;child 0 0 0 0;child 0 1 0 0;", 3);
        faultAt("table 0;child 0 0 0 0;child 0 0 0 0;", 30);
        faultAt("table 0;child 0 7 0 0;child 0 1 0 0;child 0 07 0 0;", 44);
        faultAt("table 0;child 0 7 0 0;child 0 1 0 0;child 0 01 99 0;", 44);
        // Those that sit there now are none of those that are read.
        reads("table 0;child 0 7 0 0;child 0 0 0 0;child 0 4 0 0;", 4);
        Bounds.due("read() over those who sit there", busyWith("table 0;child 0 7 0 0;child 0 0 0 0;").read(), 3);
    }

    private static void childNotThereYet() {
        Bounds.term("a CHILD that is not there yet,");
        faultAt("table 0;carrot 0;", 15);
        faultAt("table 0;carrot 0;child 0 0 0 0;", 15);
        reads("table 0;child 0 0 0 0;carrot 0;", 3);
        faultAt("table 0;child 0 0 0 0;carrot 1;", 29);
        faultAt("table 0;child 0 0 0 0;carrot 1;child 0 1 0 0;", 29);
        reads(SIX + "carrot5;", 8);
        faultAt(SIX + "carrot6;", 91);
        faultAt(SIX + "carrot99;", 91);
    }

    private static void byteThatBeginsNone() {
        Bounds.term("a byte that begins none, too);");
        int[] none = {0, 9, 10, 13, 31, '!', '/', ':', '<', '@', 'A', 'Z', '[', '`', '{', '-', '+', '.', ',', 127};
        for (int c : none) {
            String sign = String.valueOf((char) c);
            faultAt(sign, 0);
            faultAt("table" + sign + "0;", 5);
            faultAt("table 0" + sign + ";", 7);
            faultAt("table 0;" + sign, 8);
            faultAt("table 0; child 0 0 0 0" + sign + ";", 22);
        }
    }

    private static void endsTooEarly() {
        Bounds.term("the TEXT's length, if it ends too early (an empty one, too).");
        faultAt("", 0);
        faultAt(" ", 1);
        faultAt("     ", 5);
        faultAt(filled("", 150), 150);
        faultAt("table", 5);
        faultAt("table ", 6);
        faultAt("table 0", 7);
        faultAt("table 0 ", 8);
        faultAt("table 0;child", 13);
        faultAt("table 0;child 0", 15);
        faultAt("table 0;child 0 1 2 ", 20);
        faultAt("table 0;child 0 1 2 3", 21);
        faultAt("table 0;child 0 1 2 3;carrot", 28);
        faultAt("table 0;child 0 1 2 3;carrot 0", 30);
        reads("table 0; ", 1);
    }

    /** A text that is as told, cut behind each of its bytes. */
    private static void everyCut() {
        String text = "table 6; child 5 7 20 30;carrot 0;child 0 0 0 0 ;";
        int items = 0;
        int wordStart = -1;
        boolean open = true;
        for (int length = 0; length <= text.length(); length++) {
            char last = length == 0 ? ' ' : text.charAt(length - 1);
            boolean letter = last >= 'a' && last <= 'z';
            wordStart = !letter ? -1 : wordStart < 0 ? length - 1 : wordStart;
            String cut = text.substring(0, length);
            boolean wordCut = letter && !cut.endsWith("table") && !cut.endsWith("child") && !cut.endsWith("carrot");
            items += last == ';' ? 1 : 0;
            open = last == ';' ? false : last == ' ' ? open : true;
            int want = wordCut ? -10 - wordStart : open ? -10 - length : items;
            Bounds.due("read() of '" + cut + "'", Tables.written(cut).read(), want);
        }
    }

    private static void takesThePlace() {
        Bounds.term("A TABLE that is read takes the place of all but IMAGES, THE TEXT, THE FRACTION, STATUS "
            + "(MINUTE 0, nobody BITTEN, NOTES none; nothing to undo).");
        Bounds.taken("read() over another", Tables::full, BiteChild::read, 12);
        BiteChild x = Tables.full();
        long above = x.part(0), below = x.part(1);
        long[] status = Bounds.statusOf(x);
        x.read();
        Bounds.countsAre("read", x, 6, 0, 0, 0, 3, 0, 0, 150);
        for (int i = 0; i < 6; i++) {
            int[] want = {i, i, 10, i == 5 ? 10 : 0, 0};
            for (int what = 0; what < 5; what++) {
                Bounds.due("of(" + i + ", " + what + ")", x.of(i, what), want[what]);
            }
        }
        Bounds.due("above", x.part(0), above);
        Bounds.due("below", x.part(1), below);
        Bounds.statusIs("read", x, status, Bounds.NONE);
        Bounds.due("undo()", x.undo(), Bounds.NO);
        Bounds.due("read() again", x.read(), 12);
        Bounds.due("from(0)", x.from(0), 1);
        Bounds.countsAre("from an IMAGE of before", x, 6, 21);
        Bounds.due("from(1)", x.from(1), 1);
        Bounds.countsAre("from the other", x, 6, 0, 0, 0, 0, 0, 0, 150);
        // Fewer than before: nobody of before is left.
        BiteChild fewer = busyWith("table 5;child 1 2 3 4;");
        fewer.read();
        Bounds.countsAre("read of one", fewer, 1, 0, 0, 0, 5, 0, 0, 22);
        Bounds.due("of(1, 0)", fewer.of(1, 0), Bounds.BAD);
        Bounds.due("is(0), NOTES none", fewer.is(0), 63);
    }

    private static void typed() {
        Bounds.promise(4, "A byte (0 .. 127) comes behind THE TEXT: how many it has.");
        Bounds.taken("type(0)", Tables::fresh, x -> x.type(0), 1);
        Bounds.taken("type(127)", Tables::fresh, x -> x.type(127), 1);
        Bounds.taken("type(59)", Tables::busy, x -> x.type(59), 32);
        BiteChild x = new BiteChild();
        for (int k = 1; k <= 150; k++) {
            Bounds.due("type " + k, x.type(k % 128), k);
            Bounds.due("count(7)", x.count(7), k);
        }
    }

    private static void typeRefused() {
        Bounds.promise(4, "BAD; FULL.");
        Bounds.outside("type", Tables::fresh, BiteChild::type, 0, 127);
        Bounds.outside("type", Tables::busy, BiteChild::type, 0, 127);
        Bounds.outside("type", Tables::full, BiteChild::type, 0, 127);
        Bounds.taken("type 150th", () -> Tables.written(filled("table 0;", 149)), x -> x.type(32), 150);
        Bounds.full("type 151st", () -> Tables.written(filled("table 0;", 150)), x -> x.type(32));
        Bounds.full("type 151st", Tables::full, x -> x.type(0));
        BiteChild x = Tables.full();
        x.type(32);
        x.clear();
        Bounds.due("type behind clear", x.type(32), 1);
    }

    private static void cleared() {
        Bounds.promise(5, "THE TEXT is empty: how many it had.");
        Bounds.asked("clear() of none", Tables::fresh, BiteChild::clear, 0);
        Bounds.taken("clear() of 31", Tables::busy, BiteChild::clear, 31);
        Bounds.taken("clear() of 150", Tables::full, BiteChild::clear, 150);
        BiteChild x = Tables.full();
        x.clear();
        Bounds.due("count(7)", x.count(7), 0);
        Bounds.due("CHILDREN stay", x.count(0), 6);
        Bounds.due("read() of none", x.read(), -10);
        Bounds.due("clear() again", x.clear(), 0);
    }

    private static void readTaken() {
        Bounds.promise(6, "THE TABLE is read: how many ITEMS.");
        Bounds.taken("read() of one", () -> Tables.written("table 0;"), BiteChild::read, 1);
        Bounds.taken("read() of three", Tables::busy, BiteChild::read, 3);
        // As many as fit: her, six children, as many carrots.
        String most = SIX + "carrot0;carrot1;carrot2;carrot3;carrot4;carrot5;carrot0;carrot1;";
        Bounds.due("bytes", most.length(), 149);
        Bounds.taken("read() of the most", () -> Tables.written(most), BiteChild::read, 15);
    }

    private static void readLeavesAll() {
        Bounds.promise(6, "-10 less the FAULT: all stays.");
        Bounds.asked("read() of nothing", Tables::fresh, BiteChild::read, -10);
        Bounds.asked("read() with a FAULT at its end", () -> busyWith("table 1;child 3 3 3 3;carrot 0;x"), BiteChild::read, -41);
        Bounds.asked("read() of 150 bytes, one too early", () -> fullWithout(149), BiteChild::read, -159);
    }

    /** A full object whose text is right but for its last byte. */
    private static BiteChild fullWithout(int length) {
        BiteChild x = Tables.full();
        Tables.write(x, Tables.fullText().substring(0, length));
        return x;
    }
}
