import java.util.ArrayDeque;
import java.util.ArrayList;
import java.util.Deque;
import java.util.List;
import java.util.regex.Matcher;
import java.util.regex.Pattern;

/**
 * The document once more, as naively as can be: nothing is shared with the class under test,
 * every way is tried out, and texts are cut by patterns.
 */
final class PlainModel {
    static final class Kid {
        int kind, seat, words, hunger, bitten;

        Kid(int kind, int seat, int words, int hunger, int bitten) {
            this.kind = kind;
            this.seat = seat;
            this.words = words;
            this.hunger = hunger;
            this.bitten = bitten;
        }
    }

    static final class State {
        List<Kid> kids = new ArrayList<>();
        int woman, minute, bites, lately;

        State copy() {
            State s = new State();
            for (Kid k : kids) {
                s.kids.add(new Kid(k.kind, k.seat, k.words, k.hunger, k.bitten));
            }
            s.woman = woman;
            s.minute = minute;
            s.bites = bites;
            s.lately = lately;
            return s;
        }

        Kid on(int seat) {
            for (Kid k : kids) {
                if (k.seat == (seat + 8) % 8) {
                    return k;
                }
            }
            return null;
        }

        int tight(Kid k) {
            return (on(k.seat + 1) == null ? 0 : 1) + (on(k.seat - 1) == null ? 0 : 1);
        }

        int near(Kid k) {
            return PlainModel.near(k.kind, k.hunger, tight(k), k.words, k.bitten, lately);
        }

        Kid whom(Kid k) {
            return on(k.seat + 1) != null ? on(k.seat + 1) : on(k.seat - 1);
        }

        boolean guarded(int seat) {
            return seat == woman || seat == (woman + 1) % 8 || seat == (woman + 7) % 8;
        }

        boolean bites(Kid k) {
            return near(k) >= 12 && !guarded(k.seat) && whom(k) != null;
        }

        List<Kid> biters() {
            List<Kid> all = new ArrayList<>();
            for (Kid k : kids) {
                if (bites(k)) {
                    all.add(k);
                }
            }
            return all;
        }

        int pass(int n) {
            int sum = 0;
            for (int m = 0; m < n; m++) {
                List<Kid> biters = biters();
                for (Kid k : biters) {
                    whom(k).bitten++;
                    k.hunger = k.hunger < 8 ? 0 : k.hunger - 8;
                }
                for (Kid k : kids) {
                    k.hunger = k.hunger == 30 ? 30 : k.hunger + 1;
                }
                lately = biters.size();
                bites += lately;
                sum += lately;
                minute++;
            }
            return sum;
        }
    }

    static final class Image {
        State state;
        List<State> past;
        List<int[]> notes;
    }

    State s = new State();
    Deque<State> past = new ArrayDeque<>();
    List<int[]> notes = new ArrayList<>();
    final Image[] images = new Image[2];
    final StringBuilder text = new StringBuilder();
    long above = 0, below = 1;
    final int[] refused = new int[3];

    static int near(int kind, int h, int t, int w, int b, int l) {
        if (kind == 0) {
            int n = h + 3 * t - w / 2;
            return n < 0 ? 0 : n;
        }
        if (kind == 1) {
            return near(0, h, t, w, b, l) + 4;
        }
        if (kind == 2) {
            int n = near(0, h, t, w, b, l) - w / 2;
            return n < 0 ? 0 : n;
        }
        if (kind == 3) {
            return near(0, h, t, w, b, l) + 3 * l;
        }
        return kind == 4 ? near(3, h, t, w, b, l) + 2 * b : near(2, h, t, w, b, l) / 2;
    }

    int bad() {
        refused[0]++;
        return -2;
    }

    int no() {
        refused[1]++;
        return -3;
    }

    int full() {
        refused[2]++;
        return -4;
    }

    boolean kid(int i) {
        return i >= 0 && i < s.kids.size();
    }

    static boolean in(int v, int a, int b) {
        return a <= v && v <= b;
    }

    void begin(State state) {
        s = state;
        past.clear();
        notes.clear();
    }

    void push() {
        past.addLast(s.copy());
        if (past.size() > 8) {
            past.removeFirst();
        }
    }

    int table(int seat) {
        if (!in(seat, 0, 7)) {
            return bad();
        }
        int n = s.kids.size();
        State fresh = new State();
        fresh.woman = seat;
        begin(fresh);
        return n;
    }

    int child(int kind, int seat, int words, int hunger) {
        if (!in(kind, 0, 5) || !in(seat, 0, 7) || !in(words, 0, 20) || !in(hunger, 0, 30)) {
            return bad();
        }
        if (s.on(seat) != null) {
            return no();
        }
        if (s.kids.size() == 6) {
            return full();
        }
        s.kids.add(new Kid(kind, seat, words, hunger, 0));
        past.clear();
        return s.kids.size() - 1;
    }

    int type(int c) {
        if (!in(c, 0, 127)) {
            return bad();
        }
        if (text.length() == 150) {
            return full();
        }
        text.append((char) c);
        return text.length();
    }

    int clear() {
        int n = text.length();
        text.setLength(0);
        return n;
    }

    int read() {
        Matcher token = Pattern.compile("[a-z]+|[0-9]+|[^ ]").matcher(text);
        State fresh = new State();
        int items = 0;
        List<Integer> numbers = new ArrayList<>();
        String head = null;
        while (token.find()) {
            String word = token.group();
            int fault = -10 - token.start();
            if (head == null) {
                boolean stands = items == 0 ? word.equals("table")
                    : word.equals("carrot") || (word.equals("child") && fresh.kids.size() < 6);
                if (!stands) {
                    return fault;
                }
                head = word;
            } else if (numbers.size() < (head.equals("child") ? 4 : 1)) {
                if (!word.matches("[0-9]{1,2}") || !stands(fresh, head, numbers.size(), Integer.parseInt(word))) {
                    return fault;
                }
                numbers.add(Integer.parseInt(word));
            } else {
                if (!word.equals(";")) {
                    return fault;
                }
                take(fresh, head, numbers);
                items++;
                head = null;
                numbers.clear();
            }
        }
        if (items == 0 || head != null) {
            return -10 - text.length();
        }
        begin(fresh);
        return items;
    }

    private static boolean stands(State fresh, String head, int place, int number) {
        if (head.equals("table")) {
            return number <= 7;
        }
        if (head.equals("carrot")) {
            return number < fresh.kids.size();
        }
        int[] most = {5, 7, 20, 30};
        return number <= most[place] && (place != 1 || fresh.on(number) == null);
    }

    private static void take(State fresh, String head, List<Integer> n) {
        if (head.equals("table")) {
            fresh.woman = n.get(0);
        } else if (head.equals("child")) {
            fresh.kids.add(new Kid(n.get(0), n.get(1), n.get(2), n.get(3), 0));
        } else {
            Kid k = fresh.kids.get(n.get(0));
            k.hunger = k.hunger < 10 ? 0 : k.hunger - 10;
        }
    }

    int minute(int n) {
        if (!in(n, 1, 60)) {
            return bad();
        }
        push();
        int sum = 0;
        for (int k = 0; k < n; k++) {
            if (s.minute < 999) {
                sum += s.pass(1);
            }
        }
        return sum;
    }

    int carrot(int i) {
        if (!kid(i)) {
            return bad();
        }
        push();
        Kid k = s.kids.get(i);
        k.hunger = k.hunger < 10 ? 0 : k.hunger - 10;
        return k.hunger;
    }

    int moves(int i, int seat) {
        if (!kid(i) || !in(seat, 0, 7)) {
            return bad();
        }
        Kid k = s.kids.get(i);
        if (s.on(seat) != null && s.on(seat) != k) {
            return no();
        }
        push();
        int was = k.seat;
        k.seat = seat;
        return was;
    }

    int woman(int seat) {
        if (!in(seat, 0, 7)) {
            return bad();
        }
        push();
        int was = s.woman;
        s.woman = seat;
        return was;
    }

    int undo() {
        if (past.isEmpty()) {
            return no();
        }
        s = past.removeLast();
        return s.minute;
    }

    int of(int i, int what) {
        if (!kid(i) || !in(what, 0, 5)) {
            return bad();
        }
        Kid k = s.kids.get(i);
        return new int[] {k.kind, k.seat, k.words, k.hunger, k.bitten, s.tight(k)}[what];
    }

    int now(int i, int what) {
        if (!kid(i) || !in(what, 0, 2)) {
            bad();
            return -10;
        }
        Kid k = s.kids.get(i);
        return new int[] {s.near(k), s.kids.indexOf(s.whom(k)), s.bites(k) ? 1 : 0}[what];
    }

    int then(int m, int i) {
        if (!in(m, 0, 60) || (i != -1 && !kid(i))) {
            return bad();
        }
        State t = s.copy();
        t.pass(m);
        return i == -1 ? t.bites : t.kids.get(i).bitten;
    }

    int quiet() {
        for (int m = 1; m <= 60; m++) {
            if (s.copy().pass(m) > 0) {
                return m;
            }
        }
        return -1;
    }

    int stand(int m, int what) {
        if (!in(m, 1, 60) || !in(what, 0, 1)) {
            return bad();
        }
        int best = 1 << 30;
        for (int seat = 0; seat < 8; seat++) {
            State t = s.copy();
            t.woman = seat;
            best = Math.min(best, 10 * t.pass(m) + seat);
        }
        return what == 0 ? best % 10 : best / 10;
    }

    int helps() {
        int best = 100 * s.copy().pass(20) - 1;
        int found = -1;
        for (int i = 0; i < s.kids.size(); i++) {
            for (int wait = 0; wait < 10; wait++) {
                State t = s.copy();
                int sum = t.pass(wait);
                Kid k = t.kids.get(i);
                k.hunger = k.hunger < 10 ? 0 : k.hunger - 10;
                sum += t.pass(20 - wait);
                int mark = 100 * sum + 10 * i + wait;
                if (mark < best) {
                    best = mark;
                    found = 10 * i + wait;
                }
            }
        }
        return found;
    }

    private int fewest;
    private int[] way;

    private void ways(State t, int i) {
        if (i == t.kids.size()) {
            int n = t.biters().size();
            if (n < fewest) {
                fewest = n;
                way = new int[i];
                for (int k = 0; k < i; k++) {
                    way[k] = t.kids.get(k).seat;
                }
            }
            return;
        }
        for (int seat = 0; seat < 8; seat++) {
            if (t.on(seat) == null) {
                t.kids.get(i).seat = seat;
                ways(t, i + 1);
                t.kids.get(i).seat = -100;
            }
        }
    }

    int seated(int i) {
        if (i != -1 && !kid(i)) {
            bad();
            return -10;
        }
        State t = s.copy();
        for (Kid k : t.kids) {
            k.seat = -100;
        }
        fewest = 100;
        ways(t, 0);
        return i == -1 ? fewest : way[i];
    }

    int words(int i) {
        if (!kid(i)) {
            return bad();
        }
        for (int more = 0; more <= 40; more++) {
            State t = s.copy();
            t.kids.get(i).words += more;
            if (t.near(t.kids.get(i)) < 12) {
                return more;
            }
        }
        return -1;
    }

    int say() {
        int best = 1 << 30;
        for (int i = 0; i < s.kids.size(); i++) {
            State t = s.copy();
            t.kids.get(i).words += 10;
            best = Math.min(best, 10 * t.pass(20) + i);
        }
        return s.kids.isEmpty() ? -1 : best % 10;
    }

    int note(int i, int h, int t, int w, int b, int l, int x) {
        if (!kid(i) || !in(h, 0, 30) || !in(t, 0, 2) || !in(w, 0, 20) || !in(b, 0, 9) || !in(l, 0, 6) || !in(x, 0, 60)) {
            return bad();
        }
        if (notes.size() == 6) {
            return full();
        }
        notes.add(new int[] {i, h, t, w, b, l, x});
        return notes.size();
    }

    int forget() {
        int n = notes.size();
        notes.clear();
        return n;
    }

    private List<Integer> fitting(int i) {
        List<Integer> kinds = new ArrayList<>();
        for (int kind = 0; kind < 6; kind++) {
            boolean fits = true;
            for (int[] n : notes) {
                fits &= n[0] != i || near(kind, n[1], n[2], n[3], n[4], n[5]) == n[6];
            }
            if (fits) {
                kinds.add(kind);
            }
        }
        return kinds;
    }

    int is(int i) {
        if (!kid(i)) {
            return bad();
        }
        int bits = 0;
        for (int kind : fitting(i)) {
            bits += 1 << kind;
        }
        return bits;
    }

    int look(int i) {
        if (!kid(i)) {
            return bad();
        }
        List<Integer> kinds = fitting(i);
        Kid k = s.kids.get(i);
        int best = 1 << 30;
        for (int ltb = 0; ltb <= 222; ltb++) {
            int l = ltb / 100, t = ltb / 10 % 10, b = ltb % 10;
            if (t <= 2 && b <= 2) {
                int[] crowd = new int[200];
                int most = 0;
                for (int kind : kinds) {
                    most = Math.max(most, ++crowd[near(kind, k.hunger, t, k.words, b, l)]);
                }
                best = Math.min(best, 1000 * most + ltb);
            }
        }
        return kinds.isEmpty() ? -1 : best % 1000;
    }

    int who(int i) {
        if (!kid(i)) {
            return bad();
        }
        int bits = 0;
        for (int k = 0; k < s.kids.size(); k++) {
            if (s.whom(s.kids.get(k)) == s.kids.get(i)) {
                bits += 1 << k;
            }
        }
        return bits;
    }

    private int gain(int i, List<Integer> chewing) {
        int gain = chewing.contains(i) ? 0 : 1;
        for (Kid k : s.biters()) {
            if (!chewing.contains(s.kids.indexOf(k)) && s.whom(k) == s.kids.get(i)) {
                gain -= 2;
            }
        }
        return gain;
    }

    int rings(int a, int b) {
        if (!kid(a) || !kid(b) || a == b) {
            return bad();
        }
        List<List<Integer>> pairs = List.of(List.of(a, b), List.of(b), List.of(a), List.of());
        int[] otherA = {1, 0, 3, 2};
        int[] otherB = {2, 3, 0, 1};
        int bits = 0;
        for (int p = 0; p < 4; p++) {
            if (gain(a, pairs.get(otherA[p])) <= gain(a, pairs.get(p))
                && gain(b, pairs.get(otherB[p])) <= gain(b, pairs.get(p))) {
                bits += 1 << p;
            }
        }
        return bits;
    }

    int eyes(int c) {
        if (!in(c, 0, 10)) {
            return bad();
        }
        above = s.biters().size() * (10 - c);
        below = 10;
        for (int d = 2; d <= 10; d++) {
            while (above % d == 0 && below % d == 0) {
                above /= d;
                below /= d;
            }
        }
        return 1;
    }

    int weeks(int seed, int n) {
        if (!in(seed, 0, 999999) || !in(n, 0, 60)) {
            return bad();
        }
        long x = seed;
        int sum = 0;
        for (int k = 0; k < n; k++) {
            State t = s.copy();
            for (Kid kid : t.kids) {
                x = (x * 1103515245L + 12345L) & 0x7fffffffL;
                kid.hunger = (int) ((x >> 16) % 31);
            }
            sum += t.pass(3);
        }
        return sum;
    }

    long part(int what) {
        return what == 0 ? above : what == 1 ? below : bad();
    }

    int image(int i) {
        if (!in(i, 0, 1)) {
            return bad();
        }
        Image im = new Image();
        im.state = s.copy();
        im.past = new ArrayList<>();
        for (State p : past) {
            im.past.add(p.copy());
        }
        im.notes = new ArrayList<>(notes);
        images[i] = im;
        return 1;
    }

    int from(int i) {
        if (!in(i, 0, 1)) {
            return bad();
        }
        if (images[i] == null) {
            return no();
        }
        s = images[i].state.copy();
        past.clear();
        for (State p : images[i].past) {
            past.addLast(p.copy());
        }
        notes = new ArrayList<>(images[i].notes);
        return 1;
    }

    int status(int what) {
        if (!in(what, 0, 2)) {
            bad();
            return -1;
        }
        return refused[what];
    }

    private int[] counts() {
        return new int[] {s.kids.size(), s.minute, s.bites, s.lately, s.woman, notes.size(), past.size(), text.length()};
    }

    int count(int what) {
        return in(what, 0, 7) ? counts()[what] : bad();
    }

    long digest() {
        List<Long> all = new ArrayList<>();
        for (int c : counts()) {
            all.add((long) c);
        }
        for (Kid k : s.kids) {
            all.addAll(List.of((long) k.kind, (long) k.seat, (long) k.words, (long) k.hunger, (long) k.bitten));
        }
        for (int[] n : notes) {
            for (int v : n) {
                all.add((long) v);
            }
        }
        all.add(above);
        all.add(below);
        long h = 1429;
        for (long v : all) {
            h = 31 * h + v;
        }
        return h;
    }
}
