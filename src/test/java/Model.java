import java.util.ArrayDeque;
import java.util.ArrayList;
import java.util.Deque;
import java.util.LinkedHashSet;
import java.util.List;
import java.util.Set;
import java.util.TreeSet;
import java.util.regex.Matcher;
import java.util.regex.Pattern;

/**
 * A second writing of the document, for ModelTest alone: slow and with the whole Java library, and as
 * unlike the class as can be: objects instead of cells, every 200 ticks gone through, nothing kept that
 * can be counted, refusals by exceptions.
 */
final class Model {

    private static final int NONE = -1;
    private static final Pattern HOUSE = Pattern.compile(
            "L(?:h(?:[0-2][0-9]|3[0-5])(?:[0-2][0-9]|3[0-5])[1-9]|t(?:0[1-9]|[1-5][0-9]|60)"
            + "|x(?:[0-2][0-9]|3[0-5])|r[0-2]|p[0-9])*");

    /** A caterpillar. */
    private static final class Cat {
        int crack;
        int leaf;
        int length;
        int where;
        int hidden;
        int eaten;
        int waited;
        int goneTick = NONE;
        ArrayDeque<Integer> rooms = new ArrayDeque<>();

        Cat copy() {
            Cat c = new Cat();
            c.crack = crack;
            c.leaf = leaf;
            c.length = length;
            c.where = where;
            c.hidden = hidden;
            c.eaten = eaten;
            c.waited = waited;
            c.goneTick = goneTick;
            c.rooms = new ArrayDeque<>(rooms);
            return c;
        }
    }

    /** A state. */
    private static final class State {
        List<Cat> cats = new ArrayList<>();
        Set<Integer> shut = new TreeSet<>();
        int rule;
        int ticks;

        State copy() {
            State s = new State();
            for (Cat c : cats) {
                s.cats.add(c.copy());
            }
            s.shut.addAll(shut);
            s.rule = rule;
            s.ticks = ticks;
            return s;
        }

        Cat cat(int i) {
            if (i < 0 || i >= cats.size()) {
                throw new IndexOutOfBoundsException();
            }
            return cats.get(i);
        }

        static void checkRoom(int k) {
            if (k < 0 || k > 35) {
                throw new IndexOutOfBoundsException();
            }
        }

        int taker(int k) {
            for (int i = 0; i < cats.size(); i++) {
                if (cats.get(i).rooms.contains(k)) {
                    return i;
                }
            }
            return NONE;
        }

        boolean free(int k) {
            return !shut.contains(k) && taker(k) == NONE;
        }

        int in(int where) {
            return (int) cats.stream().filter(c -> c.where == where).count();
        }

        int waits() {
            return cats.stream().mapToInt(c -> c.waited).sum();
        }

        int next(Cat c) {
            if (c.where == 0) {
                return c.crack;
            }
            if (c.where != 1 || c.rooms.getFirst() == c.leaf) {
                return NONE;
            }
            int at = c.rooms.getFirst();
            boolean row = at % 6 != c.leaf % 6;
            boolean column = at / 6 != c.leaf / 6;
            int byRow = at + Integer.signum(c.leaf % 6 - at % 6);
            int byColumn = at + 6 * Integer.signum(c.leaf / 6 - at / 6);
            switch (rule) {
                case 0:
                    return row ? byRow : byColumn;
                case 1:
                    return column ? byColumn : byRow;
                default:
                    if (row && free(byRow)) {
                        return byRow;
                    }
                    if (column && free(byColumn)) {
                        return byColumn;
                    }
                    return row ? byRow : byColumn;
            }
        }

        void tick() {
            ticks++;
            for (int i = 0; i < cats.size(); i++) {
                Cat c = cats.get(i);
                if (c.where == 0) {
                    if (free(c.crack)) {
                        c.where = 1;
                        c.hidden--;
                        c.rooms.addFirst(c.crack);
                    } else {
                        c.waited++;
                    }
                } else if (c.where == 1 && c.rooms.getFirst() == c.leaf) {
                    c.eaten++;
                    comeOutOrLeave(c);
                    if (c.eaten == c.length) {
                        c.where = 2;
                        c.goneTick = ticks;
                    }
                } else if (c.where == 1) {
                    int next = next(c);
                    if (free(next)) {
                        c.rooms.addFirst(next);
                        comeOutOrLeave(c);
                    } else {
                        c.waited++;
                    }
                }
            }
        }

        private static void comeOutOrLeave(Cat c) {
            if (c.hidden > 0) {
                c.hidden--;
            } else {
                c.rooms.removeLast();
            }
        }

        int waitsFor(int i) {
            int next = next(cat(i));
            return next == NONE ? NONE : taker(next);
        }

        Set<Integer> ring() {
            for (int i = 0; i < cats.size(); i++) {
                Set<Integer> seen = new LinkedHashSet<>();
                int at = i;
                while (at != NONE && seen.add(at)) {
                    at = waitsFor(at);
                }
                if (at == i) {
                    return seen;
                }
            }
            return Set.of();
        }

        int hatch(int crack, int leaf, int length) {
            checkRoom(crack);
            checkRoom(leaf);
            if (length < 1 || length > 9) {
                throw new IllegalArgumentException();
            }
            if (cats.size() == 10) {
                throw new IllegalStateException();
            }
            Cat c = new Cat();
            c.crack = crack;
            c.leaf = leaf;
            c.length = length;
            c.hidden = length;
            cats.add(c);
            return cats.size() - 1;
        }

        int ticks(int n) {
            if (n < 1 || n > 60) {
                throw new IllegalArgumentException();
            }
            int before = in(2);
            for (int k = 0; k < n; k++) {
                tick();
            }
            return in(2) - before;
        }

        int rule(int r) {
            if (r < 0 || r > 2) {
                throw new IllegalArgumentException();
            }
            int before = rule;
            rule = r;
            return before;
        }

        int shut(int k, boolean to) {
            checkRoom(k);
            if (to && taker(k) != NONE) {
                throw new IllegalStateException();
            }
            if (to) {
                shut.add(k);
            } else {
                shut.remove(k);
            }
            return shut.size();
        }

        int pull(int i) {
            Cat c = cat(i);
            if (c.where > 1) {
                throw new IllegalStateException();
            }
            int rooms = c.rooms.size();
            c.rooms.clear();
            c.hidden = 0;
            c.where = 3;
            return rooms;
        }

        int throughIn() {
            State s = copy();
            for (int t = 0; t <= 200; t++) {
                if (s.in(0) + s.in(1) == 0) {
                    return t;
                }
                s.tick();
            }
            return NONE;
        }

        int goneIn(int i) {
            cat(i);
            State s = copy();
            for (int t = 0; t <= 200; t++) {
                if (s.cat(i).where == 2) {
                    return t;
                }
                s.tick();
            }
            return NONE;
        }

        State behind200() {
            State s = copy();
            for (int t = 0; t < 200; t++) {
                s.tick();
            }
            return s;
        }
    }

    private final StringBuilder text = new StringBuilder();
    private final Deque<State> past = new ArrayDeque<>();
    private final State[] slots = new State[2];
    private State now = new State();

    int append(int c) {
        if (c < 0 || c > 255) {
            throw new IllegalArgumentException();
        }
        if (text.length() == 120) {
            throw new IllegalStateException();
        }
        return text.append((char) c).length();
    }

    int clearText() {
        int before = text.length();
        text.setLength(0);
        return before;
    }

    int errorPosition() {
        for (int k = 1; k <= text.length(); k++) {
            Matcher m = HOUSE.matcher(text.substring(0, k));
            if (!m.matches() && !m.hitEnd()) {
                return k - 1;
            }
        }
        return HOUSE.matcher(text).matches() ? NONE : text.length();
    }

    int load() {
        if (errorPosition() != NONE) {
            throw new IllegalStateException();
        }
        now = new State();
        past.clear();
        slots[0] = null;
        slots[1] = null;
        int leftOut = 0;
        Matcher m = Pattern.compile("[htxrp][0-9]+").matcher(text);
        while (m.find()) {
            try {
                command(m.group().charAt(0), m.group().substring(1));
            } catch (IllegalStateException | IndexOutOfBoundsException e) {
                leftOut++;
            }
        }
        return leftOut;
    }

    private void command(char letter, String digits) {
        int number = Integer.parseInt(digits);
        switch (letter) {
            case 'h':
                now.hatch(number / 1000, number / 10 % 100, number % 10);
                break;
            case 't':
                now.ticks(number);
                break;
            case 'x':
                now.shut(number, true);
                break;
            case 'r':
                now.rule(number);
                break;
            default:
                now.pull(number);
        }
    }

    int about(int what) {
        switch (what) {
            case 0:
                return now.cats.size();
            case 1:
            case 2:
            case 3:
            case 4:
                return now.in(what - 1);
            case 5:
                return now.ticks;
            case 6:
                return now.cats.stream().mapToInt(c -> c.rooms.size()).sum();
            case 7:
                return now.shut.size();
            case 8:
                return now.rule;
            case 9:
                return now.waits();
            default:
                throw new IllegalArgumentException();
        }
    }

    int caterpillar(int i, int what) {
        Cat c = now.cat(i);
        if (what < 0 || what > 8) {
            throw new IllegalArgumentException();
        }
        int[] numbers = {c.where, c.rooms.size(), c.hidden, c.eaten, c.waited, c.goneTick, c.crack, c.leaf, c.length};
        return numbers[what];
    }

    int lies(int i, int k) {
        List<Integer> rooms = new ArrayList<>(now.cat(i).rooms);
        if (k < 0 || k >= rooms.size()) {
            throw new IndexOutOfBoundsException();
        }
        return rooms.get(k);
    }

    int room(int k, int what) {
        State.checkRoom(k);
        if (what != 0 && what != 1) {
            throw new IllegalArgumentException();
        }
        return what == 0 ? now.taker(k) : now.shut.contains(k) ? 1 : 0;
    }

    int next(int i) {
        return now.next(now.cat(i));
    }

    int waitsFor(int i) {
        return now.waitsFor(i);
    }

    int ring(int what) {
        if (what != 0 && what != 1) {
            throw new IllegalArgumentException();
        }
        Set<Integer> ring = now.ring();
        return ring.isEmpty() ? NONE : what == 0 ? ring.iterator().next() : ring.size();
    }

    private void remember(State before) {
        past.addLast(before);
        if (past.size() > 14) {
            past.removeFirst();
        }
    }

    int hatch(int crack, int leaf, int length) {
        State before = now.copy();
        int answer = now.hatch(crack, leaf, length);
        remember(before);
        return answer;
    }

    int ticks(int n) {
        State before = now.copy();
        int answer = now.ticks(n);
        remember(before);
        return answer;
    }

    int rule(int r) {
        State before = now.copy();
        int answer = now.rule(r);
        remember(before);
        return answer;
    }

    int shut(int k, boolean to) {
        State before = now.copy();
        int answer = now.shut(k, to);
        remember(before);
        return answer;
    }

    int pull(int i) {
        State before = now.copy();
        int answer = now.pull(i);
        remember(before);
        return answer;
    }

    int undo() {
        if (past.isEmpty()) {
            throw new IllegalStateException();
        }
        now = past.removeLast();
        return past.size();
    }

    int goneIn(int i) {
        return now.goneIn(i);
    }

    int throughIn() {
        return now.throughIn();
    }

    int bestRule() {
        int best = 0;
        long bestWorth = Long.MIN_VALUE;
        for (int r = 0; r < 3; r++) {
            State s = now.copy();
            s.rule = r;
            int through = s.throughIn();
            long worth = 1000L * s.behind200().in(2) - (through == NONE ? 999 : through);
            if (worth > bestWorth) {
                bestWorth = worth;
                best = r;
            }
        }
        return best;
    }

    int bestPull() {
        int best = NONE;
        int most = NONE;
        State without = now.behind200();
        for (int i = 0; i < now.cats.size(); i++) {
            if (now.cat(i).where > 1) {
                continue;
            }
            State s = now.copy();
            s.pull(i);
            int with = s.behind200().in(2);
            int others = without.in(2) - (without.cat(i).where == 2 ? 1 : 0);
            if (with > others && with > most) {
                best = i;
                most = with;
            }
        }
        return best;
    }

    int ifHatched(int crack, int leaf, int length) {
        State s = now.copy();
        try {
            return s.goneIn(s.hatch(crack, leaf, length));
        } catch (IllegalStateException e) {
            return NONE;
        }
    }

    int runScript(int n, long script) {
        if (n < 1 || n > 3 || script < 0 || Long.toString(script).length() > 6 * n) {
            throw new IllegalArgumentException();
        }
        String digits = "0".repeat(6 * n - Long.toString(script).length()) + script;
        State s = now.copy();
        for (int k = 0; k < n; k++) {
            boolean done;
            try {
                done = succeeds(s, digits.substring(6 * k, 6 * k + 6));
            } catch (IllegalArgumentException | IllegalStateException | IndexOutOfBoundsException e) {
                done = false;
            }
            if (!done) {
                return k;
            }
        }
        return NONE;
    }

    private static boolean succeeds(State s, String d) {
        int last = d.charAt(5) - '0';
        int kk = Integer.parseInt(d.substring(1, 3));
        if (d.matches("1000..")) {
            s.ticks(Integer.parseInt(d.substring(4)));
            return true;
        }
        if (d.matches("2.....")) {
            s.hatch(kk, Integer.parseInt(d.substring(3, 5)), last);
            return true;
        }
        if (d.matches("30000.")) {
            s.rule(last);
            return true;
        }
        if (d.matches("4..00[01]")) {
            s.shut(kk, last == 1);
            return true;
        }
        if (d.matches("50000.")) {
            s.pull(last);
            return true;
        }
        if (d.matches("60.00.")) {
            return s.cat(d.charAt(2) - '0').where == last;
        }
        if (d.matches("7..00.")) {
            State.checkRoom(kk);
            s.cat(last);
            return s.taker(kk) == last;
        }
        if (d.matches("80000[01]")) {
            return s.ring().isEmpty() == (last == 0);
        }
        if (d.matches("900...")) {
            int through = s.throughIn();
            return through != NONE && through <= Integer.parseInt(d.substring(3));
        }
        return false;
    }

    int simulate(long seed, int m) {
        if (m < 1 || m > 60) {
            throw new IllegalArgumentException();
        }
        State s = now.copy();
        int before = s.waits();
        long x = seed;
        for (int turn = 0; turn < m; turn++) {
            x = x * 6364136223846793005L + 1442695040888963407L;
            int r = (int) (x >>> 33);
            try {
                turn(s, r % 8, r / 8);
            } catch (IllegalArgumentException | IllegalStateException | IndexOutOfBoundsException e) {
                continue;
            }
        }
        int waits = s.waits() - before;
        return 1000 * s.in(2) + (waits > 999 ? 999 : waits);
    }

    private static void turn(State s, int kind, int q) {
        if (kind < 3) {
            s.hatch(q % 36, q / 36 % 36, 1 + q / 1296 % 9);
        } else if (kind == 3 && q / 4 % 4 == 0) {
            s.rule(q % 3);
        } else if (kind == 3) {
            s.shut(q % 36, q / 64 % 4 == 0);
        } else if (kind == 4 && q / 16 % 4 == 0) {
            s.pull(q % 10);
        } else {
            s.ticks(kind == 4 ? 1 : 1 + q % 12);
        }
    }

    int save(int slot) {
        if (slot < 0 || slot > 1) {
            throw new IndexOutOfBoundsException();
        }
        slots[slot] = now.copy();
        return now.ticks;
    }

    int restore(int slot) {
        if (slot < 0 || slot > 1) {
            throw new IndexOutOfBoundsException();
        }
        if (slots[slot] == null) {
            throw new IllegalStateException();
        }
        now = slots[slot].copy();
        past.clear();
        return now.ticks;
    }
}
