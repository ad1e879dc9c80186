import java.util.ArrayList;
import java.util.HashSet;
import java.util.List;
import java.util.Set;
import java.util.regex.Matcher;
import java.util.regex.Pattern;

/** The document told a second time, as plainly as can be, to compare the class with. */
final class Model {
    static final int NONE = -1;
    private static final Pattern GROUND;

    static {
        String plot = "([0-9]|1[0-9]|2[0-3])";
        String command = "(ask,[0-9]|let,[0-9]," + plot + "|bury," + plot + "|run,[1-9][0-9]?|dig,[0-3],[1-3])";
        GROUND = Pattern.compile(command + "(;" + command + ")*");
    }

    static final class Grave {
        int family = NONE;
        int last = NONE;
        int claimant = NONE;
        List<Integer> burials = new ArrayList<>();

        Grave copy() {
            Grave grave = new Grave();
            grave.family = family;
            grave.last = last;
            grave.claimant = claimant;
            grave.burials = new ArrayList<>(burials);
            return grave;
        }
    }

    static final class State {
        int year;
        int ossuary;
        int townPaid;
        int[] settings = {30, 20, 2, 10, 5};
        int[] depths = {2, 2, 2, 2};
        int[] paid = new int[10];
        List<Grave> graves = new ArrayList<>();
        List<Integer> queue = new ArrayList<>();

        State() {
            for (int p = 0; p < 24; p++) {
                graves.add(new Grave());
            }
        }

        State copy() {
            State s = new State();
            s.year = year;
            s.ossuary = ossuary;
            s.townPaid = townPaid;
            s.settings = settings.clone();
            s.depths = depths.clone();
            s.paid = paid.clone();
            s.queue = new ArrayList<>(queue);
            for (int p = 0; p < 24; p++) {
                s.graves.set(p, graves.get(p).copy());
            }
            return s;
        }

        int state(int p) {
            Grave g = graves.get(p);
            if (g.family == NONE) {
                return 0;
            }
            if (year <= g.last) {
                return 1;
            }
            if (g.claimant != NONE) {
                return 2;
            }
            return !g.burials.isEmpty() && year < latest(p) + settings[1] ? 3 : 4;
        }

        int latest(int p) {
            List<Integer> years = graves.get(p).burials;
            return years.isEmpty() ? NONE : years.get(years.size() - 1);
        }

        int bestFor(int f) {
            for (int way = 0; way <= 8; way++) {
                for (int p = 0; p < 24; p++) {
                    for (int q = 0; q < 24; q++) {
                        int rows = Math.abs(p / 6 - q / 6);
                        int columns = Math.abs(p % 6 - q % 6);
                        if (graves.get(p).family == NONE && graves.get(q).family == f && rows + columns == way) {
                            return p;
                        }
                    }
                }
            }
            for (int p = 0; p < 24; p++) {
                if (graves.get(p).family == NONE) {
                    return p;
                }
            }
            return NONE;
        }

        void assign(int f, int p) {
            Grave g = graves.get(p);
            g.family = f;
            g.last = year + settings[0] - 1;
            paid[f] += settings[0] * settings[2];
        }

        /** The families that get plots, in their order. */
        List<Integer> serve() {
            List<Integer> served = new ArrayList<>();
            while (!queue.isEmpty() && bestFor(queue.get(0)) != NONE) {
                int f = queue.remove(0);
                assign(f, bestFor(f));
                served.add(f);
            }
            return served;
        }

        List<Integer> nextYear() {
            year++;
            for (int p = 0; p < 24; p++) {
                Grave g = graves.get(p);
                if (g.family != NONE && year > g.last && g.burials.isEmpty() && g.claimant == NONE) {
                    graves.set(p, new Grave());
                }
            }
            return serve();
        }

        int ask(int f) {
            int p = bestFor(f);
            if (p == NONE) {
                if (queue.size() == 12) {
                    throw new IllegalStateException();
                }
                queue.add(f);
            } else {
                assign(f, p);
            }
            return p;
        }

        int let(int f, int p) {
            require(graves.get(p).family == NONE);
            assign(f, p);
            return graves.get(p).last;
        }

        int bury(int p) {
            Grave g = graves.get(p);
            require(state(p) == 1 && g.claimant == NONE && g.burials.size() < depths[p / 6]);
            g.burials.add(year);
            paid[g.family] += settings[3];
            while (g.last < year + settings[1]) {
                g.last++;
                paid[g.family] += settings[2];
            }
            return g.last;
        }

        int renew(int p, int years) {
            Grave g = graves.get(p);
            require(g.family != NONE && g.claimant == NONE);
            g.last += years;
            paid[g.family] += years * settings[2];
            return g.last;
        }

        int claim(int p, int f) {
            Grave g = graves.get(p);
            require(g.family != NONE && g.family != f && g.claimant == NONE);
            g.claimant = f;
            return about(4);
        }

        int settle(int p, boolean wins) {
            Grave g = graves.get(p);
            require(g.claimant != NONE);
            g.family = wins ? g.claimant : g.family;
            g.claimant = NONE;
            return g.family;
        }

        int clear(int p) {
            require(state(p) == 4);
            int moved = graves.get(p).burials.size();
            ossuary += moved;
            townPaid += settings[4];
            graves.set(p, new Grave());
            return moved;
        }

        int dig(int row, int depth) {
            int previous = depths[row];
            depths[row] = depth;
            return previous;
        }

        int run(int n) {
            if (n < 1 || n > 99) {
                throw new IllegalArgumentException();
            }
            int served = 0;
            for (int i = 0; i < n; i++) {
                served += nextYear().size();
            }
            return served;
        }

        int set(int what, int v) {
            int previous = settings[what];
            settings[what] = v;
            return previous;
        }

        int about(int what) {
            int[] states = new int[5];
            int disputes = 0;
            int burials = 0;
            int sum = 0;
            for (int p = 0; p < 24; p++) {
                states[state(p)]++;
                disputes += graves.get(p).claimant == NONE ? 0 : 1;
                burials += graves.get(p).burials.size();
            }
            for (int f = 0; f < 10; f++) {
                sum += paid[f];
            }
            return new int[] {year, states[0], states[2] + states[3] + states[4], states[4], disputes, queue.size(),
                burials, ossuary, sum, townPaid}[what];
        }

        int family(int f, int what) {
            int plots = 0;
            int burials = 0;
            int claims = 0;
            for (Grave g : graves) {
                plots += g.family == f ? 1 : 0;
                burials += g.family == f ? g.burials.size() : 0;
                claims += g.claimant == f ? 1 : 0;
            }
            int times = 0;
            for (int waiter : queue) {
                times += waiter == f ? 1 : 0;
            }
            return new int[] {plots, burials, times, queue.indexOf(f), claims, paid[f]}[what];
        }

        String register(int p) {
            Grave g = graves.get(p);
            if (g.family == NONE) {
                return "p" + p + " free";
            }
            return "p" + p + " f" + g.family + " " + g.burials.size() + "/" + depths[p / 6] + " " + g.last
                    + (year > g.last ? "!" : "") + (g.claimant == NONE ? "" : "?" + g.claimant);
        }

        int clearFrom(int p) {
            Grave g = graves.get(p);
            if (g.family == NONE) {
                return NONE;
            }
            int first = year;
            while (first <= g.last || !g.burials.isEmpty() && first < latest(p) + settings[1]) {
                first++;
            }
            return first;
        }

        int coming(int n, int what) {
            State s = copy();
            for (int i = 0; i < n; i++) {
                s.nextYear();
            }
            return s.about(what == 3 ? 5 : what + 1);
        }

        int whenFor(int f) {
            if (bestFor(f) != NONE) {
                return year;
            }
            State s = copy();
            s.queue.add(f);
            for (int i = 0; i <= 200; i++) {
                Set<Integer> served = new HashSet<>();
                if (i > 0) {
                    served.addAll(s.nextYear());
                }
                for (int p = 0; p < 24; p++) {
                    if (s.state(p) == 4) {
                        s.clear(p);
                    }
                }
                served.addAll(s.serve());
                if (served.contains(f)) {
                    return s.year;
                }
            }
            return NONE;
        }

        int runScript(int n, long script) {
            State s = copy();
            StringBuilder digits = new StringBuilder().append(script);
            while (digits.length() < 4 * n) {
                digits.insert(0, '0');
            }
            for (int i = 0; i < n; i++) {
                try {
                    require(s.scriptCommand(digits.substring(4 * i, 4 * i + 4)));
                } catch (IllegalStateException | IllegalArgumentException | IndexOutOfBoundsException e) {
                    return i;
                }
            }
            return NONE;
        }

        private boolean scriptCommand(String group) {
            int digit = group.charAt(1) - '0';
            int number = Integer.parseInt(group.substring(2));
            if (group.matches("1.00")) {
                ask(digit);
                return true;
            }
            if (group.matches("2...")) {
                let(digit, number);
                return true;
            }
            if (group.matches("30..")) {
                bury(number);
                return true;
            }
            if (group.matches("40..")) {
                clear(number);
                return true;
            }
            if (group.matches("5...")) {
                claim(number, digit);
                return true;
            }
            if (group.matches("60..")) {
                run(number);
                return true;
            }
            return group.matches("7...") && graves.get(number).family == digit
                    || group.matches("8...") && state(number) == digit
                    || group.matches("90..") && queue.size() <= number;
        }

        int simulate(long seed, int m) {
            State s = copy();
            long x = seed;
            for (int i = 0; i < m; i++) {
                x = x * 6364136223846793005L + 1442695040888963407L;
                try {
                    s.turn((int) (x >>> 33));
                } catch (IllegalStateException e) {
                    // it is left out
                }
            }
            return 100 * s.about(6) + s.about(7);
        }

        private void turn(int r) {
            int p = r / 8 % 24;
            int f = r / 256 % 10;
            switch (r % 8) {
                case 0, 1 -> ask(f);
                case 2, 3 -> bury(p);
                case 4 -> clear(p);
                case 5 -> claim(p, f);
                case 6 -> settle(p, r / 256 % 2 == 0);
                default -> run(1 + r / 8 % 30);
            }
        }
    }

    State now = new State();
    List<State> remembered = new ArrayList<>();
    State[] slots = new State[2];
    String text = "";

    static void require(boolean holds) {
        if (!holds) {
            throw new IllegalStateException();
        }
    }

    interface Action {
        int on(State s);
    }

    int act(Action action) {
        State before = now.copy();
        int answer = action.on(now);
        remembered.add(before);
        if (remembered.size() > 14) {
            remembered.remove(0);
        }
        return answer;
    }

    int undo() {
        require(!remembered.isEmpty());
        now = remembered.remove(remembered.size() - 1);
        return remembered.size();
    }

    int save(int slot) {
        slots[slot] = now.copy();
        return now.year;
    }

    int restore(int slot) {
        require(slots[slot] != null);
        now = slots[slot].copy();
        remembered.clear();
        return now.year;
    }

    int errorPosition() {
        for (int i = 1; i <= text.length(); i++) {
            Matcher start = GROUND.matcher(text.substring(0, i));
            if (!start.matches() && !start.hitEnd()) {
                return i - 1;
            }
        }
        return GROUND.matcher(text).matches() ? NONE : text.length();
    }

    int load() {
        require(errorPosition() == NONE);
        now = new State();
        remembered.clear();
        slots = new State[2];
        int leftOut = 0;
        for (String command : text.split(";")) {
            String[] parts = command.split(",");
            int first = Integer.parseInt(parts[1]);
            int second = parts.length > 2 ? Integer.parseInt(parts[2]) : 0;
            try {
                switch (parts[0]) {
                    case "ask" -> now.ask(first);
                    case "let" -> now.let(first, second);
                    case "bury" -> now.bury(first);
                    case "run" -> now.run(first);
                    default -> now.dig(first, second);
                }
            } catch (IllegalStateException e) {
                leftOut++;
            }
        }
        return leftOut;
    }
}
