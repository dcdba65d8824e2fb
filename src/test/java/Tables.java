/** Tables that the tests of the boundary cases begin with. */
final class Tables {
    static final int PLAIN = 0, TEETHER = 1, TALKER = 2, COPIER = 3, SORE = 4, CALM = 5;
    /** By SEAT: the one next to it, the one ahead of it. */
    static final int[] NEXT = {1, 2, 3, 4, 5, 6, 7, 0};
    static final int[] AHEAD = {7, 0, 1, 2, 3, 4, 5, 6};

    private Tables() { }

    static BiteChild fresh() {
        return new BiteChild();
    }

    /** Child 0, PLAIN on 4, bites when its HUNGER is 9; child 1, CALM on 5 with 20 WORDS, never does. */
    static BiteChild biterAndCalm(int hunger) {
        return pair(PLAIN, 0, hunger);
    }

    /** Child 0 on 4 as told; child 1 on 5 never bites. She stands behind 0. */
    static BiteChild pair(int kind, int words, int hunger) {
        BiteChild x = new BiteChild();
        x.child(kind, 4, words, hunger);
        x.child(CALM, 5, 20, 0);
        return x;
    }

    /** Child 0 on 5 never bites; child 1 on 4 is as told. */
    static BiteChild pairTurned(int kind, int words, int hunger) {
        BiteChild x = new BiteChild();
        x.child(CALM, 5, 20, 0);
        x.child(kind, 4, words, hunger);
        return x;
    }

    /** Three children; what may be undone, NOTES, IMAGE 0, THE TEXT, THE FRACTION, STATUS: all are there. */
    static BiteChild busy() {
        BiteChild x = new BiteChild();
        x.table(2);
        x.child(PLAIN, 7, 3, 20);
        x.child(SORE, 0, 1, 12);
        x.child(CALM, 5, 20, 4);
        x.minute(2);
        x.note(1, 3, 2, 0, 1, 1, 14);
        x.eyes(3);
        x.woman(3);
        x.image(0);
        x.moves(2, 4);
        x.carrot(0);
        x.note(0, 1, 1, 1, 1, 1, 1);
        x.woman(6);
        x.minute(1);
        write(x, "table 5;child 1 2 3 4;carrot 0;");
        x.eyes(11);
        x.moves(0, 0);
        return x;
    }

    /** Nothing more fits: 6 children, 6 NOTES, 8 that may be undone, both IMAGES, a TEXT of 150 bytes. */
    static BiteChild full() {
        BiteChild x = new BiteChild();
        for (int i = 0; i < 6; i++) {
            x.child(i, i + 1, 3 * i, 30 - 2 * i);
        }
        x.image(1);
        for (int i = 0; i < 6; i++) {
            x.note(i, 5 * i, i % 3, 3 * i, i, i, 9 * i);
            x.minute(i + 1);
        }
        x.eyes(1);
        x.image(0);
        x.carrot(1);
        x.moves(2, 7);
        x.woman(4);
        write(x, fullText());
        return x;
    }

    static BiteChild sixHungry() {
        BiteChild x = new BiteChild();
        for (int i = 0; i < 6; i++) {
            x.child(PLAIN, i + 1, 0, 30);
        }
        return x;
    }

    /** 150 bytes, the last of them a ; that ends the twelfth ITEM. */
    static String fullText() {
        StringBuilder text = new StringBuilder("table 3; ");
        for (int i = 0; i < 6; i++) {
            text.append("child ").append(i).append(' ').append(i).append(" 10 10;");
        }
        for (int i = 0; i < 5; i++) {
            text.append("carrot ").append(i).append(';');
        }
        return text.toString();
    }

    static void write(BiteChild x, String text) {
        x.clear();
        for (int k = 0; k < text.length(); k++) {
            x.type(text.charAt(k));
        }
    }

    static BiteChild written(String text) {
        BiteChild x = new BiteChild();
        write(x, text);
        return x;
    }

    /** Lets MINUTES go by until there is the told one. */
    static void passTo(BiteChild x, int minute) {
        for (int k = x.count(1); k < minute; k += 60) {
            x.minute(Math.min(60, minute - k));
        }
    }
}
