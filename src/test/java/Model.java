import java.util.ArrayDeque;
import java.util.ArrayList;
import java.util.Arrays;
import java.util.Deque;
import java.util.List;
import java.util.regex.Matcher;
import java.util.regex.Pattern;

/**
 * The document once more, in the plainest Java: copies for everything, null for what is unreadable, and commands that
 * are called and may throw. ModelTest plays it against the class.
 */
final class Model {
    static final int NONE = -99999;

    private static final class Cut extends RuntimeException {
        private static final long serialVersionUID = 1L;
    }

    private static final class Service {
        final int kind;
        final int part;
        final int noted;

        Service(int kind, int part, int noted) {
            this.kind = kind;
            this.part = part;
            this.noted = noted;
        }
    }

    private static final class State {
        int n = 4;
        int step = 10;
        int limit = 100;
        Integer[][] held;
        int[][] wear;
        boolean on = true;
        boolean dead = false;
        int distance = 0;
        int stored = 0;
        int current = 0;
        int travelled = 0;
        int writes = 0;
        int cuts = 0;
        int cutIn = 0;
        int cutKind = NONE;
        int[] last = {NONE, NONE, NONE, NONE};
        List<Service> services = new ArrayList<>();

        State(int n, int step, int limit) {
            this.n = n;
            this.step = step;
            this.limit = limit;
            held = new Integer[n][3];
            for (Integer[] slot : held) {
                Arrays.fill(slot, 0);
            }
            wear = new int[n][3];
        }

        State copy() {
            State c = new State(n, step, limit);
            for (int s = 0; s < n; s++) {
                c.held[s] = held[s].clone();
                c.wear[s] = wear[s].clone();
            }
            c.on = on;
            c.dead = dead;
            c.distance = distance;
            c.stored = stored;
            c.current = current;
            c.travelled = travelled;
            c.writes = writes;
            c.cuts = cuts;
            c.cutIn = cutIn;
            c.cutKind = cutKind;
            c.last = last.clone();
            c.services = new ArrayList<>(services);
            return c;
        }

        boolean stuck(int s, int i) {
            return wear[s][i] >= limit;
        }

        Integer says(int s) {
            for (int i = 0; i < 3; i++) {
                for (int j = i + 1; j < 3; j++) {
                    if (held[s][i] != null && held[s][i].equals(held[s][j])) {
                        return held[s][i];
                    }
                }
            }
            return null;
        }

        void write(int s, int i, int v, int tried) {
            writes++;
            boolean falls = cutIn == 1;
            if (cutIn > 0) {
                cutIn--;
            }
            if (!stuck(s, i)) {
                wear[s][i]++;
                if (!falls) {
                    held[s][i] = v;
                } else if (cutKind == 1) {
                    held[s][i] = null;
                } else if (cutKind == 2) {
                    held[s][i] = v - v % 100;
                }
            }
            if (falls) {
                last = new int[] {s, i, cutKind, tried};
                cuts++;
                on = false;
                dead = false;
                throw new Cut();
            }
        }

        void store() {
            for (int k = 1; k < n; k++) {
                int s = (current + k) % n;
                for (int i = 0; i < 3; i++) {
                    write(s, i, distance, k - 1);
                }
                Integer said = says(s);
                if (said != null && said == distance) {
                    current = s;
                    stored = distance;
                    return;
                }
            }
            dead = true;
        }

        int drive(int tenths) {
            range(tenths, 1, 999);
            allowed(on);
            for (int t = 1; t <= tenths; t++) {
                travelled++;
                distance++;
                if (distance >= stored + step && !dead) {
                    try {
                        store();
                    } catch (Cut cut) {
                        return t;
                    }
                }
            }
            return tenths;
        }

        int cut(int on1, int kind) {
            range(on1, 1, 36);
            range(kind, 0, 2);
            allowed(on);
            int before = cutIn;
            cutIn = on1;
            cutKind = kind;
            return before;
        }

        int start() {
            allowed(!on);
            current = 0;
            distance = 0;
            Integer best = null;
            for (int s = 0; s < n; s++) {
                Integer said = says(s);
                if (said != null && (best == null || said > best)) {
                    best = said;
                    current = s;
                    distance = said;
                }
            }
            stored = distance;
            dead = false;
            on = true;
            return distance;
        }

        Service find(int kind, int part) {
            for (Service s : services) {
                if (s.kind == kind && s.part == part) {
                    return s;
                }
            }
            return null;
        }

        int service(int kind, int part) {
            range(kind, 0, 9);
            range(part, 0, 9);
            Service before = find(kind, part);
            allowed(on && (before != null || services.size() < 12));
            services.remove(before);
            services.add(new Service(kind, part, distance));
            return before == null ? NONE : distance - before.noted;
        }

        int replace(int s) {
            index(s, n);
            allowed(on && s != current);
            int sum = Arrays.stream(wear[s]).sum();
            Arrays.fill(wear[s], 0);
            Arrays.fill(held[s], 0);
            return sum;
        }

        int setStep(int to) {
            range(to, 1, 99);
            int before = step;
            step = to;
            return before;
        }

        int gap() {
            int most = Arrays.stream(wear).flatMapToInt(Arrays::stream).max().getAsInt();
            int least = Arrays.stream(wear).flatMapToInt(Arrays::stream).min().getAsInt();
            return most - least;
        }
    }

    private final StringBuilder text = new StringBuilder();
    private State now = new State(4, 10, 100);
    private final Deque<State> remembered = new ArrayDeque<>();
    private final State[] saved = new State[2];

    private static void range(long value, long least, long most) {
        if (value < least || value > most) {
            throw new IllegalArgumentException();
        }
    }

    private static void index(int value, int size) {
        if (value < 0 || value >= size) {
            throw new IndexOutOfBoundsException();
        }
    }

    private static void allowed(boolean is) {
        if (!is) {
            throw new IllegalStateException();
        }
    }

    int append(int c) {
        range(c, 0, 255);
        allowed(text.length() < 90);
        text.append((char) c);
        return text.length();
    }

    int clearText() {
        int before = text.length();
        text.setLength(0);
        return before;
    }

    private static Pattern story(int n) {
        String slots = n <= 10 ? "0[0-" + (n - 1) + "]" : "(0[0-9]|1[0-" + (n - 11) + "])";
        String command = "(d(00[1-9]|0[1-9][0-9]|[1-9][0-9][0-9])|c(0[1-9]|[12][0-9]|3[0-6])[0-2]|s|m[0-9][0-9]|r" + slots + ")";
        return Pattern.compile("O(0[3-9]|1[0-2])(0[1-9]|[1-9][0-9])(0[1-9][0-9]|[1-9][0-9][0-9])" + command + "*");
    }

    /** How the text so far goes with the rules: 0 it is a story, 1 it begins one, 2 it does not. */
    private static int fits(String part) {
        int n = 4;
        if (part.length() >= 3) {
            Matcher head = Pattern.compile("O(0[3-9]|1[0-2]).*", Pattern.DOTALL).matcher(part);
            if (!head.matches()) {
                return 2;
            }
            n = Integer.parseInt(part.substring(1, 3));
        }
        Matcher m = story(n).matcher(part);
        return m.matches() ? 0 : m.hitEnd() ? 1 : 2;
    }

    int errorPosition() {
        for (int length = 1; length <= text.length(); length++) {
            if (fits(text.substring(0, length)) == 2) {
                return length - 1;
            }
        }
        return fits(text.toString()) == 0 ? NONE : text.length();
    }

    int load() {
        allowed(errorPosition() == NONE);
        String t = text.toString();
        now = new State(Integer.parseInt(t.substring(1, 3)), Integer.parseInt(t.substring(3, 5)), Integer.parseInt(t.substring(5, 8)));
        remembered.clear();
        saved[0] = null;
        saved[1] = null;
        int left = 0;
        Matcher m = Pattern.compile("([dcsmr])([0-9]*)").matcher(t.substring(8));
        while (m.find()) {
            String d = m.group(2);
            try {
                switch (m.group(1)) {
                    case "d" -> now.drive(Integer.parseInt(d));
                    case "c" -> now.cut(Integer.parseInt(d.substring(0, 2)), Integer.parseInt(d.substring(2)));
                    case "s" -> now.start();
                    case "m" -> now.service(d.charAt(0) - '0', d.charAt(1) - '0');
                    default -> now.replace(Integer.parseInt(d));
                }
            } catch (IllegalStateException thrown) {
                left++;
            }
        }
        return left;
    }

    int about(int what) {
        range(what, 0, 14);
        State s = now;
        int[] all = {
            s.n, s.step, s.limit, s.on ? 1 : 0, s.on ? s.distance : NONE, s.travelled, s.on ? s.stored : NONE,
            s.on ? s.current : NONE, s.writes, s.cuts, s.cutIn, s.cutIn > 0 ? s.cutKind : NONE, s.dead ? 1 : 0, s.gap(),
            s.services.size()
        };
        return all[what];
    }

    int cell(int slot, int i, int what) {
        index(slot, now.n);
        index(i, 3);
        range(what, 0, 2);
        Integer held = now.held[slot][i];
        return what == 0 ? held == null ? NONE : held : what == 1 ? now.wear[slot][i] : now.stuck(slot, i) ? 1 : 0;
    }

    int says(int slot) {
        index(slot, now.n);
        Integer said = now.says(slot);
        return said == null ? NONE : said;
    }

    int whySilent(int slot) {
        index(slot, now.n);
        if (now.says(slot) != null) {
            return 0;
        }
        return Arrays.stream(now.held[slot]).filter(h -> h != null).count() < 2 ? 1 : 2;
    }

    int share(int slot) {
        index(slot, now.n);
        int all = Arrays.stream(now.wear).flatMapToInt(Arrays::stream).sum();
        return all == 0 ? 0 : 100 * Arrays.stream(now.wear[slot]).sum() / all;
    }

    int serviceAt(int i, int what) {
        range(i, 0, Integer.MAX_VALUE);
        range(what, 0, 2);
        if (i >= now.services.size()) {
            return NONE;
        }
        Service s = now.services.get(i);
        return what == 0 ? s.kind : what == 1 ? s.part : s.noted;
    }

    int lastCut(int what) {
        range(what, 0, 3);
        return now.last[what];
    }

    private interface Action {
        int on(State s);
    }

    private int act(Action action) {
        State before = now.copy();
        int answer = action.on(now);
        remembered.addLast(before);
        if (remembered.size() > 14) {
            remembered.removeFirst();
        }
        return answer;
    }

    int drive(int tenths) {
        return act(s -> s.drive(tenths));
    }

    int cut(int n, int kind) {
        return act(s -> s.cut(n, kind));
    }

    int start() {
        return act(State::start);
    }

    int service(int kind, int part) {
        return act(s -> s.service(kind, part));
    }

    int forget(int kind, int part) {
        return act(s -> {
            range(kind, 0, 9);
            range(part, 0, 9);
            Service noted = s.find(kind, part);
            allowed(noted != null);
            s.services.remove(noted);
            return noted.noted;
        });
    }

    int setStep(int step) {
        return act(s -> s.setStep(step));
    }

    int replace(int slot) {
        return act(s -> s.replace(slot));
    }

    int undo() {
        allowed(!remembered.isEmpty());
        now = remembered.removeLast();
        return remembered.size();
    }

    int afterCut(int n, int kind) {
        range(n, 1, 36);
        range(kind, 0, 2);
        allowed(now.on && !now.dead);
        State s = now.copy();
        s.cut(n, kind);
        try {
            s.store();
            return now.distance;
        } catch (Cut cut) {
            return s.start();
        }
    }

    int worstLoss() {
        allowed(now.on && !now.dead);
        int worst = Integer.MIN_VALUE;
        for (int n = 1; n <= 36; n++) {
            for (int kind = 0; kind < 3; kind++) {
                worst = Math.max(worst, now.distance - afterCut(n, kind));
            }
        }
        return worst;
    }

    int lasts(int step) {
        range(step, 1, 99);
        allowed(now.on);
        State s = now.copy();
        s.step = step;
        s.cutIn = 0;
        int driven = 0;
        while (!s.dead) {
            if (driven == 9999) {
                return NONE;
            }
            s.drive(1);
            driven++;
        }
        return driven;
    }

    int dueIn(int kind, int part, int interval) {
        range(kind, 0, 9);
        range(part, 0, 9);
        range(interval, 1, 9999);
        allowed(now.on);
        Service noted = now.find(kind, part);
        return noted == null ? NONE : noted.noted + interval - now.distance;
    }

    int dueFirst() {
        Service first = null;
        for (Service s : now.services) {
            if (first == null || s.noted < first.noted) {
                first = s;
            }
        }
        return first == null ? NONE : 10 * first.kind + first.part;
    }

    int runScript(int n, long script) {
        range(n, 1, 4);
        range(script, 0, Long.MAX_VALUE);
        String digits = Long.toString(script);
        range(script == 0 ? 1 : digits.length(), 1, 4L * n);
        while (digits.length() < 4 * n) {
            digits = "0" + digits;
        }
        State s = now.copy();
        for (int i = 0; i < n; i++) {
            try {
                allowed(succeeds(s, digits.substring(4 * i, 4 * i + 4)));
            } catch (IllegalStateException | IllegalArgumentException | IndexOutOfBoundsException thrown) {
                return i;
            }
        }
        return NONE;
    }

    private static boolean succeeds(State s, String group) {
        int a = group.charAt(1) - '0';
        int b = group.charAt(2) - '0';
        int c = group.charAt(3) - '0';
        if (group.matches("1...")) {
            s.drive(100 * a + 10 * b + c);
        } else if (group.matches("20..")) {
            s.cut(b, c);
        } else if (group.matches("3000")) {
            s.start();
        } else if (group.matches("4..0")) {
            s.service(a, b);
        } else if (group.matches("5...")) {
            return s.on && s.distance >= 100 * a + 10 * b + c;
        } else if (group.matches("60..")) {
            s.setStep(10 * b + c);
        } else if (group.matches("7.00")) {
            return a < s.n && s.says(a) != null;
        } else if (group.matches("80..")) {
            return s.gap() <= 10 * b + c;
        } else if (group.matches("9.00")) {
            s.replace(a);
        } else {
            return false;
        }
        return true;
    }

    int simulate(long seed, int m) {
        range(m, 1, 99);
        State s = now.copy();
        long x = seed;
        int driven = 0;
        for (int round = 0; round < m; round++) {
            x = x * 6364136223846793005L + 1442695040888963407L;
            int r = (int) (x >>> 33);
            if (!s.on) {
                s.start();
            }
            if (r % 4 == 0) {
                s.cut(1 + r / 4 % 9, r / 64 % 3);
            }
            driven += s.drive(1 + r / 256 % 50);
        }
        if (!s.on) {
            s.start();
        }
        return 10000 * driven + Math.min(9999, s.travelled - s.distance);
    }

    int save(int slot) {
        index(slot, 2);
        saved[slot] = now.copy();
        return now.travelled;
    }

    int restore(int slot) {
        index(slot, 2);
        allowed(saved[slot] != null);
        now = saved[slot].copy();
        remembered.clear();
        return now.travelled;
    }
}
