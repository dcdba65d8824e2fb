/** A round table of children, some of whom bite; the promises stand in ../shared/DOC.md. */
public final class BiteChild {
    public static final int NONE = -1, BAD = -2, NO = -3, FULL = -4;

    /** What now and seated answer for BAD, and what read takes the fault from. */
    private static final int TEN_LESS = -10;
    private static final int SEATS = 8;
    private static final int MOST_CHILDREN = 6;
    private static final int KINDS = 6;
    private static final int MOST_WORDS = 20;
    private static final int MOST_HUNGER = 30;
    private static final int MOST_BYTES = 150;
    private static final int MOST_UNDONE = 8;
    private static final int MOST_NOTES = 6;
    private static final int NOTE_PARTS = 7;
    private static final int LAST_MINUTE = 999;
    private static final int MOST_MINUTES = 60;
    private static final int MINUTES_AHEAD = 20;
    private static final int BITING = 12;
    private static final int IMAGES = 2;

    private final Scene scene;
    private final Scene[] images;
    private final boolean[] imageKept;
    private final Text text;
    private final Table trial;
    private final int[] seating;
    private final int[] refused;
    private long above;
    private long below;

    public BiteChild() {
        scene = new Scene();
        images = new Scene[IMAGES];
        for (int i = 0; i < IMAGES; i++) {
            images[i] = new Scene();
        }
        imageKept = new boolean[IMAGES];
        text = new Text();
        trial = new Table();
        seating = new int[MOST_CHILDREN];
        refused = new int[3];
        above = 0;
        below = 1;
    }

    // ---- a table

    public int table(int seat) {
        if (!isSeat(seat)) {
            return refuse(BAD);
        }
        int children = scene.table.children;
        trial.layAnew(seat);
        scene.beginWith(trial);
        return children;
    }

    public int child(int kind, int seat, int words, int hunger) {
        boolean asTold = within(kind, 0, KINDS - 1) && isSeat(seat)
            && within(words, 0, MOST_WORDS) && within(hunger, 0, MOST_HUNGER);
        if (!asTold) {
            return refuse(BAD);
        }
        if (scene.table.childAt(seat) != NONE) {
            return refuse(NO);
        }
        if (scene.table.children >= MOST_CHILDREN) {
            return refuse(FULL);
        }
        scene.past.empty();
        return scene.table.addChild(kind, seat, words, hunger);
    }

    public int type(int c) {
        if (!within(c, 0, 127)) {
            return refuse(BAD);
        }
        if (text.length >= MOST_BYTES) {
            return refuse(FULL);
        }
        return text.append(c);
    }

    public int clear() {
        int length = text.length;
        text.length = 0;
        return length;
    }

    public int read() {
        int answer = text.readInto(trial);
        if (answer > 0) {
            scene.beginWith(trial);
        }
        return answer;
    }

    // ---- minutes

    public int minute(int n) {
        if (!within(n, 1, MOST_MINUTES)) {
            return refuse(BAD);
        }
        scene.past.keep(scene.table);
        return scene.table.passMinutes(Math.min(n, LAST_MINUTE - scene.table.minute));
    }

    public int carrot(int i) {
        if (!isChild(i)) {
            return refuse(BAD);
        }
        scene.past.keep(scene.table);
        return scene.table.giveCarrot(i);
    }

    public int moves(int i, int seat) {
        if (!isChild(i) || !isSeat(seat)) {
            return refuse(BAD);
        }
        int sitter = scene.table.childAt(seat);
        if (sitter != NONE && sitter != i) {
            return refuse(NO);
        }
        scene.past.keep(scene.table);
        int was = scene.table.seat[i];
        scene.table.seat[i] = seat;
        return was;
    }

    public int woman(int seat) {
        if (!isSeat(seat)) {
            return refuse(BAD);
        }
        scene.past.keep(scene.table);
        int was = scene.table.woman;
        scene.table.woman = seat;
        return was;
    }

    public int undo() {
        if (scene.past.size == 0) {
            return refuse(NO);
        }
        scene.past.giveBack(scene.table);
        return scene.table.minute;
    }

    public int of(int i, int what) {
        if (!isChild(i) || !within(what, 0, 5)) {
            return refuse(BAD);
        }
        return what == 5 ? scene.table.tightOf(i) : scene.table.partOf(i, what);
    }

    public int now(int i, int what) {
        if (!isChild(i) || !within(what, 0, 2)) {
            refuse(BAD);
            return TEN_LESS;
        }
        if (what == 0) {
            return scene.table.nearOf(i);
        }
        return what == 1 ? scene.table.whomOf(i) : (scene.table.biters() >> i) & 1;
    }

    // ---- what comes

    public int then(int m, int i) {
        if (!within(m, 0, MOST_MINUTES) || (i != NONE && !isChild(i))) {
            return refuse(BAD);
        }
        trial.copyFrom(scene.table);
        trial.passMinutes(m);
        return i == NONE ? trial.bites : trial.bitten[i];
    }

    public int quiet() {
        trial.copyFrom(scene.table);
        for (int k = 1; k <= MOST_MINUTES; k++) {
            if (trial.passMinute() > 0) {
                return k;
            }
        }
        return NONE;
    }

    public int stand(int m, int what) {
        if (!within(m, 1, MOST_MINUTES) || !within(what, 0, 1)) {
            return refuse(BAD);
        }
        int best = NONE;
        int fewest = MOST_CHILDREN * m + 1;
        for (int seat = 0; seat < SEATS; seat++) {
            trial.copyFrom(scene.table);
            trial.woman = seat;
            int bites = trial.passMinutes(m);
            if (bites < fewest) {
                fewest = bites;
                best = seat;
            }
        }
        return what == 0 ? best : fewest;
    }

    public int helps() {
        int best = NONE;
        trial.copyFrom(scene.table);
        int fewest = trial.passMinutes(MINUTES_AHEAD);
        for (int i = 0; i < scene.table.children; i++) {
            for (int wait = 0; wait < 10; wait++) {
                int bites = bitesWithCarrot(i, wait);
                if (bites < fewest) {
                    fewest = bites;
                    best = 10 * i + wait;
                }
            }
        }
        return best;
    }

    public int seated(int i) {
        if (i != NONE && !isChild(i)) {
            refuse(BAD);
            return TEN_LESS;
        }
        int all = scene.table.children;
        trial.copyFrom(scene.table);
        int fewest = seatRest(trial, 0, all, all + 1, seating);
        return i == NONE ? fewest : seating[i];
    }

    public int words(int i) {
        if (!isChild(i)) {
            return refuse(BAD);
        }
        trial.copyFrom(scene.table);
        for (int more = 0; more <= 40; more++) {
            trial.words[i] = scene.table.words[i] + more;
            if (trial.nearOf(i) < BITING) {
                return more;
            }
        }
        return NONE;
    }

    public int say() {
        int best = NONE;
        int fewest = MOST_CHILDREN * MINUTES_AHEAD + 1;
        for (int i = 0; i < scene.table.children; i++) {
            trial.copyFrom(scene.table);
            trial.words[i] += 10;
            int bites = trial.passMinutes(MINUTES_AHEAD);
            if (bites < fewest) {
                fewest = bites;
                best = i;
            }
        }
        return best;
    }

    // ---- what one is

    public int note(int i, int h, int t, int w, int b, int l, int x) {
        boolean asTold = isChild(i) && within(h, 0, MOST_HUNGER) && within(t, 0, 2)
            && within(w, 0, MOST_WORDS) && within(b, 0, 9) && within(l, 0, 6) && within(x, 0, 60);
        if (!asTold) {
            return refuse(BAD);
        }
        if (scene.notes.size >= MOST_NOTES) {
            return refuse(FULL);
        }
        return scene.notes.add(i, h, t, w, b, l, x);
    }

    public int forget() {
        int size = scene.notes.size;
        scene.notes.size = 0;
        return size;
    }

    public int is(int i) {
        return isChild(i) ? scene.notes.kindsOf(i) : refuse(BAD);
    }

    public int look(int i) {
        if (!isChild(i)) {
            return refuse(BAD);
        }
        int kinds = scene.notes.kindsOf(i);
        if (kinds == 0) {
            return NONE;
        }
        int best = NONE;
        int fewest = KINDS + 1;
        for (int l = 0; l <= 2; l++) {
            for (int t = 0; t <= 2; t++) {
                for (int b = 0; b <= 2; b++) {
                    int alike = mostAlike(kinds, scene.table.hunger[i], t, scene.table.words[i], b, l);
                    if (alike < fewest) {
                        fewest = alike;
                        best = 100 * l + 10 * t + b;
                    }
                }
            }
        }
        return best;
    }

    public int who(int i) {
        if (!isChild(i)) {
            return refuse(BAD);
        }
        int children = 0;
        for (int k = 0; k < scene.table.children; k++) {
            if (scene.table.whomOf(k) == i) {
                children |= 1 << k;
            }
        }
        return children;
    }

    public int rings(int a, int b) {
        if (!isChild(a) || !isChild(b) || a == b) {
            return refuse(BAD);
        }
        int resting = 0;
        for (int pair = 0; pair < 4; pair++) {
            boolean aRests = ringGain(a, pair, a, b) >= ringGain(a, pair ^ 1, a, b);
            boolean bRests = ringGain(b, pair, a, b) >= ringGain(b, pair ^ 2, a, b);
            if (aRests && bRests) {
                resting |= 1 << pair;
            }
        }
        return resting;
    }

    public int eyes(int c) {
        if (!within(c, 0, 10)) {
            return refuse(BAD);
        }
        int tenths = Integer.bitCount(scene.table.biters()) * (10 - c);
        int shared = 10;
        while (shared > 1 && (tenths % shared != 0 || 10 % shared != 0)) {
            shared--;
        }
        above = tenths / shared;
        below = 10 / shared;
        return 1;
    }

    public int weeks(int seed, int n) {
        if (!within(seed, 0, 999999) || !within(n, 0, MOST_MINUTES)) {
            return refuse(BAD);
        }
        long x = seed;
        int bites = 0;
        for (int k = 0; k < n; k++) {
            trial.copyFrom(scene.table);
            for (int i = 0; i < trial.children; i++) {
                x = (x * 1103515245L + 12345L) % 2147483648L;
                trial.hunger[i] = (int) (x / 65536L % 31L);
            }
            bites += trial.passMinutes(3);
        }
        return bites;
    }

    // ---- what there is

    public long part(int what) {
        if (!within(what, 0, 1)) {
            return refuse(BAD);
        }
        return what == 0 ? above : below;
    }

    public int image(int i) {
        if (!within(i, 0, IMAGES - 1)) {
            return refuse(BAD);
        }
        images[i].copyFrom(scene);
        imageKept[i] = true;
        return 1;
    }

    public int from(int i) {
        if (!within(i, 0, IMAGES - 1)) {
            return refuse(BAD);
        }
        if (!imageKept[i]) {
            return refuse(NO);
        }
        scene.copyFrom(images[i]);
        return 1;
    }

    public int status(int what) {
        if (!within(what, 0, 2)) {
            refuse(BAD);
            return -1;
        }
        return refused[what];
    }

    public int count(int what) {
        return within(what, 0, 7) ? howMany(what) : refuse(BAD);
    }

    public long digest() {
        long h = 1429;
        for (int what = 0; what <= 7; what++) {
            h = 31 * h + howMany(what);
        }
        for (int i = 0; i < scene.table.children; i++) {
            for (int what = 0; what <= 4; what++) {
                h = 31 * h + scene.table.partOf(i, what);
            }
        }
        for (int k = 0; k < scene.notes.size * NOTE_PARTS; k++) {
            h = 31 * h + scene.notes.parts[k];
        }
        h = 31 * h + above;
        return 31 * h + below;
    }

    // ---- what the calls share

    private static boolean within(int number, int least, int most) {
        return number >= least && number <= most;
    }

    private static boolean isSeat(int seat) {
        return within(seat, 0, SEATS - 1);
    }

    private boolean isChild(int i) {
        return within(i, 0, scene.table.children - 1);
    }

    private int refuse(int reason) {
        int place = BAD - reason;
        if (within(place, 0, refused.length - 1)) {
            refused[place]++;
        }
        return reason;
    }

    private int howMany(int what) {
        switch (what) {
            case 0: return scene.table.children;
            case 1: return scene.table.minute;
            case 2: return scene.table.bites;
            case 3: return scene.table.lately;
            case 4: return scene.table.woman;
            case 5: return scene.notes.size;
            case 6: return scene.past.size;
            default: return text.length;
        }
    }

    private int bitesWithCarrot(int i, int wait) {
        trial.copyFrom(scene.table);
        int bites = trial.passMinutes(wait);
        trial.giveCarrot(i);
        return bites + trial.passMinutes(MINUTES_AHEAD - wait);
    }

    /**
     * Seats the children from placed on in rising ways and keeps the first way with fewer
     * biters than least. A way is left as soon as those seated already bite too often: more
     * children only make it tighter, so none of them stops biting.
     */
    private static int seatRest(Table trial, int placed, int all, int least, int[] seating) {
        trial.children = placed;
        int biters = Integer.bitCount(trial.biters());
        if (biters >= least) {
            return least;
        }
        if (placed >= all || placed >= MOST_CHILDREN) {
            System.arraycopy(trial.seat, 0, seating, 0, MOST_CHILDREN);
            return biters;
        }
        int fewest = least;
        for (int seat = 0; seat < SEATS; seat++) {
            trial.children = placed;
            if (trial.childAt(seat) == NONE) {
                trial.seat[placed] = seat;
                fewest = seatRest(trial, placed + 1, all, fewest, seating);
            }
        }
        return fewest;
    }

    /** What child i gets by a pair of choices: bit 0, a does not chew; bit 1, b does not. */
    private int ringGain(int i, int pair, int a, int b) {
        boolean aChews = (pair & 1) == 0;
        boolean bChews = (pair & 2) == 0;
        int biters = scene.table.biters();
        if (aChews) {
            biters &= ~(1 << a);
        }
        if (bChews) {
            biters &= ~(1 << b);
        }
        boolean chews = i == a ? aChews : bChews;
        return (chews ? 0 : 1) - 2 * scene.table.timesBitten(i, biters);
    }

    /** How many the largest crowd of these kinds is that would be alike near. */
    private static int mostAlike(int kinds, int h, int t, int w, int b, int l) {
        int most = 0;
        for (int kind = 0; kind < KINDS; kind++) {
            if ((kinds >> kind & 1) == 1) {
                int near = near(kind, h, t, w, b, l);
                most = Math.max(most, Integer.bitCount(kinds & kindsSoNear(near, h, t, w, b, l)));
            }
        }
        return most;
    }

    private static int kindsSoNear(int near, int h, int t, int w, int b, int l) {
        int kinds = 0;
        for (int kind = 0; kind < KINDS; kind++) {
            if (near(kind, h, t, w, b, l) == near) {
                kinds |= 1 << kind;
            }
        }
        return kinds;
    }

    private static int near(int kind, int h, int t, int w, int b, int l) {
        int plain = Math.max(0, h + 3 * t - w / 2);
        int talker = Math.max(0, plain - w / 2);
        int copier = plain + 3 * l;
        switch (kind) {
            case 1: return plain + 4;
            case 2: return talker;
            case 3: return copier;
            case 4: return copier + 2 * b;
            case 5: return talker / 2;
            default: return plain;
        }
    }

    /** The children round the table, and the woman behind it. */
    private static final class Table {
        private int woman;
        private int minute;
        private int bites;
        private int lately;
        private int children;
        private final int[] kind;
        private final int[] seat;
        private final int[] words;
        private final int[] hunger;
        private final int[] bitten;

        private Table() {
            kind = new int[MOST_CHILDREN];
            seat = new int[MOST_CHILDREN];
            words = new int[MOST_CHILDREN];
            hunger = new int[MOST_CHILDREN];
            bitten = new int[MOST_CHILDREN];
        }

        private void layAnew(int womanSeat) {
            woman = womanSeat;
            minute = 0;
            bites = 0;
            lately = 0;
            children = 0;
        }

        private void copyFrom(Table other) {
            woman = other.woman;
            minute = other.minute;
            bites = other.bites;
            lately = other.lately;
            children = other.children;
            System.arraycopy(other.kind, 0, kind, 0, MOST_CHILDREN);
            System.arraycopy(other.seat, 0, seat, 0, MOST_CHILDREN);
            System.arraycopy(other.words, 0, words, 0, MOST_CHILDREN);
            System.arraycopy(other.hunger, 0, hunger, 0, MOST_CHILDREN);
            System.arraycopy(other.bitten, 0, bitten, 0, MOST_CHILDREN);
        }

        private int addChild(int itsKind, int itsSeat, int itsWords, int itsHunger) {
            if (children >= MOST_CHILDREN) {
                return FULL;
            }
            int i = children;
            kind[i] = itsKind;
            seat[i] = itsSeat;
            words[i] = itsWords;
            hunger[i] = itsHunger;
            bitten[i] = 0;
            children = i + 1;
            return i;
        }

        private int partOf(int i, int what) {
            switch (what) {
                case 0: return kind[i];
                case 1: return seat[i];
                case 2: return words[i];
                case 3: return hunger[i];
                default: return bitten[i];
            }
        }

        private int childAt(int where) {
            for (int i = 0; i < children; i++) {
                if (seat[i] == where) {
                    return i;
                }
            }
            return NONE;
        }

        private int takenSeats() {
            int taken = 0;
            for (int i = 0; i < children; i++) {
                taken |= 1 << seat[i];
            }
            return taken;
        }

        private static int nextSeat(int where) {
            return (where + 1) % SEATS;
        }

        private static int seatAhead(int where) {
            return (where + SEATS - 1) % SEATS;
        }

        private static int tightIn(int taken, int where) {
            return (taken >> nextSeat(where) & 1) + (taken >> seatAhead(where) & 1);
        }

        private int tightOf(int i) {
            return tightIn(takenSeats(), seat[i]);
        }

        private int nearIf(int i, int tight) {
            return near(kind[i], hunger[i], tight, words[i], bitten[i], lately);
        }

        private int nearOf(int i) {
            return nearIf(i, tightOf(i));
        }

        private int whomOf(int i) {
            int whom = childAt(nextSeat(seat[i]));
            return whom != NONE ? whom : childAt(seatAhead(seat[i]));
        }

        private boolean isGuarded(int where) {
            return where == woman || where == nextSeat(woman) || where == seatAhead(woman);
        }

        /** Who bites in this minute, as bits; one that sits tight has somebody to bite. */
        private int biters() {
            int taken = takenSeats();
            int biters = 0;
            for (int i = 0; i < children; i++) {
                int tight = tightIn(taken, seat[i]);
                if (tight > 0 && !isGuarded(seat[i]) && nearIf(i, tight) >= BITING) {
                    biters |= 1 << i;
                }
            }
            return biters;
        }

        private int timesBitten(int i, int biters) {
            int times = 0;
            for (int k = 0; k < children; k++) {
                if ((biters >> k & 1) == 1 && whomOf(k) == i) {
                    times++;
                }
            }
            return times;
        }

        private int giveCarrot(int i) {
            hunger[i] = Math.max(0, hunger[i] - 10);
            return hunger[i];
        }

        private int passMinutes(int n) {
            int all = 0;
            for (int k = 0; k < n; k++) {
                all += passMinute();
            }
            return all;
        }

        private int passMinute() {
            int biters = biters();
            for (int i = 0; i < children; i++) {
                bitten[i] += timesBitten(i, biters);
                if ((biters >> i & 1) == 1) {
                    hunger[i] = Math.max(0, hunger[i] - 8);
                }
                hunger[i] = Math.min(MOST_HUNGER, hunger[i] + 1);
            }
            lately = Integer.bitCount(biters);
            bites += lately;
            minute++;
            return lately;
        }
    }

    /** The tables that may be had back, the oldest given up for a ninth. */
    private static final class Past {
        private final Table[] tables;
        private int oldest;
        private int size;

        private Past() {
            tables = new Table[MOST_UNDONE];
            for (int k = 0; k < MOST_UNDONE; k++) {
                tables[k] = new Table();
            }
        }

        private void empty() {
            oldest = 0;
            size = 0;
        }

        private void keep(Table table) {
            if (size < MOST_UNDONE) {
                size++;
            } else {
                oldest = (oldest + 1) % MOST_UNDONE;
            }
            tables[(oldest + size - 1) % MOST_UNDONE].copyFrom(table);
        }

        private void giveBack(Table table) {
            if (size > 0) {
                size--;
                table.copyFrom(tables[(oldest + size) % MOST_UNDONE]);
            }
        }

        private void copyFrom(Past other) {
            oldest = other.oldest;
            size = other.size;
            for (int k = 0; k < MOST_UNDONE; k++) {
                tables[k].copyFrom(other.tables[k]);
            }
        }
    }

    /** How near one was, as it was seen: i, h, t, w, b, l, x of each note in a row. */
    private static final class Notes {
        private final int[] parts;
        private int size;

        private Notes() {
            parts = new int[MOST_NOTES * NOTE_PARTS];
        }

        private int add(int i, int h, int t, int w, int b, int l, int x) {
            if (size < MOST_NOTES) {
                int at = size * NOTE_PARTS;
                parts[at] = i;
                parts[at + 1] = h;
                parts[at + 2] = t;
                parts[at + 3] = w;
                parts[at + 4] = b;
                parts[at + 5] = l;
                parts[at + 6] = x;
                size++;
            }
            return size;
        }

        private int kindsOf(int i) {
            int kinds = (1 << KINDS) - 1;
            for (int k = 0; k < size; k++) {
                int at = k * NOTE_PARTS;
                if (parts[at] == i) {
                    kinds &= kindsSoNear(parts[at + 6], parts[at + 1], parts[at + 2],
                        parts[at + 3], parts[at + 4], parts[at + 5]);
                }
            }
            return kinds;
        }

        private void copyFrom(Notes other) {
            size = other.size;
            System.arraycopy(other.parts, 0, parts, 0, parts.length);
        }
    }

    /** All that an image keeps. */
    private static final class Scene {
        private final Table table;
        private final Past past;
        private final Notes notes;

        private Scene() {
            table = new Table();
            past = new Past();
            notes = new Notes();
        }

        private void beginWith(Table first) {
            table.copyFrom(first);
            past.empty();
            notes.size = 0;
        }

        private void copyFrom(Scene other) {
            table.copyFrom(other.table);
            past.copyFrom(other.past);
            notes.copyFrom(other.notes);
        }
    }

    /** The text, and how a table is read from it: token by token, start being where the last began. */
    private static final class Text {
        private static final int END = 0, MARK = 1, NUMBER = 2, TABLE = 3, CHILD = 4, CARROT = 5, OTHER = 6;

        private final byte[] bytes;
        private int length;
        private int place;
        private int start;
        private int token;
        private int value;

        private Text() {
            bytes = new byte[MOST_BYTES];
        }

        private int append(int c) {
            if (length < MOST_BYTES) {
                bytes[length] = (byte) c;
                length++;
            }
            return length;
        }

        /** How many items; or ten less than nothing, less the place of the fault. */
        private int readInto(Table table) {
            table.layAnew(0);
            place = 0;
            int items = 0;
            nextToken();
            boolean fits = token == TABLE && readWoman(table);
            while (fits && token != END && items < MOST_BYTES) {
                items++;
                nextToken();
                // Chosen once, by the first token: reading an item puts others in its place.
                fits = token == CHILD ? readChild(table)
                    : token == CARROT ? readCarrot(table) : token == END;
            }
            return fits ? items : TEN_LESS - start;
        }

        private boolean readWoman(Table table) {
            if (!nextNumber(SEATS - 1)) {
                return false;
            }
            table.woman = value;
            return nextMark();
        }

        private boolean readChild(Table table) {
            if (table.children >= MOST_CHILDREN || !nextNumber(KINDS - 1)) {
                return false;
            }
            int kind = value;
            if (!nextNumber(SEATS - 1) || table.childAt(value) != NONE) {
                return false;
            }
            int seat = value;
            if (!nextNumber(MOST_WORDS)) {
                return false;
            }
            int words = value;
            if (!nextNumber(MOST_HUNGER)) {
                return false;
            }
            table.addChild(kind, seat, words, value);
            return nextMark();
        }

        private boolean readCarrot(Table table) {
            if (!nextNumber(table.children - 1)) {
                return false;
            }
            table.giveCarrot(value);
            return nextMark();
        }

        private boolean nextNumber(int most) {
            nextToken();
            return token == NUMBER && value <= most;
        }

        private boolean nextMark() {
            nextToken();
            return token == MARK;
        }

        private void nextToken() {
            while (place < length && bytes[place] == ' ') {
                place++;
            }
            start = place;
            if (start >= length) {
                token = END;
            } else if (isLetter(bytes[start])) {
                takeWord();
            } else if (isFigure(bytes[start])) {
                takeFigures();
            } else {
                token = bytes[start] == ';' ? MARK : OTHER;
                place++;
            }
        }

        private void takeWord() {
            while (place < length && isLetter(bytes[place])) {
                place++;
            }
            if (isWord("table")) {
                token = TABLE;
            } else if (isWord("child")) {
                token = CHILD;
            } else {
                token = isWord("carrot") ? CARROT : OTHER;
            }
        }

        private void takeFigures() {
            value = 0;
            while (place < length && isFigure(bytes[place])) {
                if (place - start < 2) {
                    value = 10 * value + bytes[place] - '0';
                }
                place++;
            }
            token = place - start <= 2 ? NUMBER : OTHER;
        }

        private boolean isWord(String word) {
            if (place - start != word.length()) {
                return false;
            }
            for (int k = 0; k < word.length(); k++) {
                if (bytes[start + k] != word.charAt(k)) {
                    return false;
                }
            }
            return true;
        }

        private static boolean isLetter(int c) {
            return c >= 'a' && c <= 'z';
        }

        private static boolean isFigure(int c) {
            return c >= '0' && c <= '9';
        }
    }
}
