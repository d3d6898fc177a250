import java.util.ArrayList;
import java.util.HashMap;
import java.util.HashSet;
import java.util.List;
import java.util.Map;
import java.util.Set;
import java.util.regex.Pattern;

/**
 * The document once more, written apart from the class and another way: texts are matched by a pattern, and all
 * that can be told of the past is made again from lists of what happened. RandomRunsTest holds the two together.
 */
final class Model {
    private static final String STEP = "(?:p(?:0|[1-9][0-9]{0,3})|[abho+*=<-]|[ls][0-7]|[jg](?:0|[1-9][0-9]?))";
    private static final Pattern PROGRAM = Pattern.compile(STEP + "(?:;" + STEP + "){0,23}");
    private static final String[] ORDERS = {"CPG", "CGP", "PCG", "PGC", "GCP", "GPC"};

    private record Sent(int team, int service, int a, int b, int round) { }

    private record Handed(int by, int team, int service, int put, int came) { }

    private record Checked(int kind, int number, int answer, int right) { }

    private int teams;
    private int rounds;
    private long fuelUsed;
    private String tape = "";
    private final int[] settings = {60, 0, 3, 100, 1, 1, 1};
    private final Map<String, String[]> programs = new HashMap<>();
    private final Map<String, String[]> patches = new HashMap<>();
    private final Map<String, int[]> cells = new HashMap<>();
    private final Map<String, Integer> broken = new HashMap<>();
    private final Map<String, Integer> dry = new HashMap<>();
    private final Map<String, List<Checked>> checks = new HashMap<>();
    private final Set<String> ups = new HashSet<>();
    private final List<Sent> sent = new ArrayList<>();
    private final List<Handed> handed = new ArrayList<>();

    private static String key(int team, int service) {
        return team + "." + service;
    }

    private boolean isThere(int team, int service) {
        return team >= 0 && team < teams && service >= 0 && service <= 2;
    }

    int team() {
        if (rounds > 0) {
            return -3;
        }
        return teams == 5 ? -4 : teams++;
    }

    int feed(long w, int n) {
        if (n < 1 || n > 8) {
            return -2;
        }
        if (tape.length() + n > 120) {
            return -4;
        }
        String all = "";
        for (int i = 0; i < 8; i++) {
            all = (char) (w & 255) + all;
            w >>= 8;
        }
        tape += all.substring(8 - n);
        return tape.length();
    }

    /** Whether some PROGRAM begins with this: it is one, or wants a digit, or a STEP behind a ; */
    private static boolean canGoOn(String begin) {
        return PROGRAM.matcher(begin).matches() || PROGRAM.matcher(begin + "0").matches()
                || PROGRAM.matcher(begin + "a").matches();
    }

    private static int fault(String text) {
        for (int size = 1; size <= text.length(); size++) {
            if (!canGoOn(text.substring(0, size))) {
                return size - 1;
            }
        }
        if (!PROGRAM.matcher(text).matches()) {
            return text.length();
        }
        String[] steps = text.split(";");
        for (int i = 0; i < steps.length; i++) {
            if ("jg".indexOf(steps[i].charAt(0)) >= 0 && Integer.parseInt(steps[i].substring(1)) >= steps.length) {
                return 200 + i;
            }
        }
        return -1;
    }

    int patch(int team, int service) {
        if (!isThere(team, service)) {
            return -1;
        }
        String text = tape;
        tape = "";
        if (fault(text) >= 0) {
            return -10 - fault(text);
        }
        patches.put(key(team, service), text.split(";"));
        return text.split(";").length;
    }

    int unpatch(int team, int service) {
        if (!isThere(team, service)) {
            return -1;
        }
        String[] was = patches.remove(key(team, service));
        return was == null ? -3 : was.length;
    }

    int cell(int team, int service, int c) {
        return isThere(team, service) && c >= 0 && c <= 7 ? cellsOf(key(team, service))[c] : -1;
    }

    private int[] cellsOf(String key) {
        return cells.computeIfAbsent(key, k -> new int[8]);
    }

    int about(int team, int service, int what) {
        String key = key(team, service);
        if (!isThere(team, service) || what < 0 || what > 4) {
            return -1;
        }
        if (what == 0) {
            return programs.containsKey(key) ? programs.get(key).length : 0;
        }
        if (what == 1) {
            return patches.containsKey(key) ? 1 : 0;
        }
        if (what == 2) {
            return (int) ups.stream().filter(u -> u.startsWith(key + ".")).count();
        }
        return (what == 3 ? broken : dry).getOrDefault(key, 0);
    }

    int set(int what, int n) {
        String[] bounds = {"1 500", "0 999", "1 9", "0 100", "0 9999", "0 9999", "0 9999"};
        if (what < 0 || what > 6) {
            return -1;
        }
        String[] bound = bounds[what].split(" ");
        if (n < Integer.parseInt(bound[0]) || n > Integer.parseInt(bound[1])) {
            return -2;
        }
        if (rounds > 0 && (what == 1 || what == 2)) {
            return -3;
        }
        int was = settings[what];
        settings[what] = n;
        return was;
    }

    int letter(int from, int team, int service, int a, int b) {
        if (from < 0 || from >= teams || !isThere(team, service)) {
            return -1;
        }
        if (a < 0 || b < 0 || a > 9999 || b > 9999) {
            return -2;
        }
        if (sent.stream().filter(l -> l.round == rounds).count() >= 400) {
            return -4;
        }
        sent.add(new Sent(team, service, a, b, rounds));
        return run(key(team, service), a, b);
    }

    private int run(String key, int a, int b) {
        String[] program = programs.get(key);
        if (program == null) {
            return 10000;
        }
        int[] copy = cellsOf(key).clone();
        List<Integer> pile = new ArrayList<>();
        int next = 0;
        int fuel = settings[0];
        while (next < program.length) {
            if (fuel == 0) {
                cells.put(key, copy);
                dry.merge(key, 1, Integer::sum);
                return 10001;
            }
            fuel--;
            fuelUsed++;
            char sign = program[next].charAt(0);
            int number = program[next].length() > 1 ? Integer.parseInt(program[next].substring(1)) : 0;
            int few = "+-*=<".indexOf(sign) >= 0 ? 2 : "sjo".indexOf(sign) >= 0 ? 1 : 0;
            if (pile.size() < few || "pabl".indexOf(sign) >= 0 && pile.size() == 8) {
                broken.merge(key, 1, Integer::sum);
                return 10002;
            }
            int upper = few > 0 ? pile.remove(pile.size() - 1) : 0;
            int lower = few > 1 ? pile.remove(pile.size() - 1) : 0;
            next++;
            switch (sign) {
                case 'p' -> pile.add(number);
                case 'a' -> pile.add(a);
                case 'b' -> pile.add(b);
                case 'l' -> pile.add(copy[number]);
                case 's' -> copy[number] = upper;
                case '+' -> pile.add(Math.floorMod(lower + upper, 10000));
                case '-' -> pile.add(Math.floorMod(lower - upper, 10000));
                case '*' -> pile.add((int) ((long) lower * upper % 10000));
                case '=' -> pile.add(lower == upper ? 1 : 0);
                case '<' -> pile.add(lower < upper ? 1 : 0);
                case 'j' -> next = upper == 0 ? number : next;
                case 'g' -> next = number;
                default -> {
                    cells.put(key, copy);
                    return sign == 'o' ? upper : 10000;
                }
            }
        }
        cells.put(key, copy);
        return 10000;
    }

    private int mix(int r, int t, int s) {
        return (settings[1] * 31 + r * 17 + t * 7 + s * 3) % 997;
    }

    private int flagOf(int r, int t, int s) {
        return (mix(r, t, s) * 13 + 1000) % 10000;
    }

    int round() {
        if (teams == 0) {
            return -3;
        }
        if (rounds == 100) {
            return -4;
        }
        programs.putAll(patches);
        patches.clear();
        int sum = 0;
        for (int t = 0; t < teams; t++) {
            for (int s = 0; s < 3; s++) {
                List<Checked> list = new ArrayList<>();
                checks.put(key(t, s), list);
                String order = ORDERS[mix(rounds, t, s) % 6];
                for (char c : order.toCharArray()) {
                    list.add(checked(t, s, c, order.indexOf('P') < order.indexOf('G')));
                }
                if (list.stream().allMatch(c -> c.right == 1)) {
                    ups.add(key(t, s) + "." + rounds);
                    sum++;
                }
            }
        }
        rounds++;
        return sum;
    }

    private Checked checked(int t, int s, char c, boolean putAhead) {
        int mix = mix(rounds, t, s);
        int flag = flagOf(rounds, t, s);
        if (c == 'C') {
            int answer = run(key(t, s), 1, mix);
            return new Checked(0, mix, answer, answer == (mix + settings[4 + s]) % 10000 ? 1 : 0);
        }
        if (c == 'P') {
            int answer = run(key(t, s), 2, flag);
            return new Checked(1, flag, answer, answer == 0 ? 1 : 0);
        }
        int answer = run(key(t, s), 3, 0);
        boolean right = putAhead ? answer == flag : rounds == 0 || answer == flagOf(rounds - 1, t, s);
        return new Checked(2, 0, answer, right ? 1 : 0);
    }

    int up(int team, int service, int round) {
        if (!isThere(team, service) || round < 0 || round >= rounds) {
            return -1;
        }
        return ups.contains(key(team, service) + "." + round) ? 1 : 0;
    }

    int check(int team, int service, int i, int what) {
        if (!isThere(team, service) || rounds == 0 || i < 0 || i > 2 || what < 0 || what > 3) {
            return -1;
        }
        Checked c = checks.get(key(team, service)).get(i);
        return new int[] {c.kind, c.number, c.answer, c.right}[what];
    }

    int flag(int team, int service, int round) {
        return isThere(team, service) && round >= 0 && round < rounds ? flagOf(round, team, service) : -1;
    }

    int hand(int by, int team, int service, int flag) {
        if (by < 0 || by >= teams || !isThere(team, service)) {
            return -1;
        }
        if (flag < 0 || flag > 9999 || by == team) {
            return -2;
        }
        int latest = rounds - 1;
        for (int r = latest; r >= 0; r--) {
            if (latest <= r + settings[2] - 1 && flagOf(r, team, service) == flag && !has(by, team, service, r)) {
                handed.add(new Handed(by, team, service, r, latest));
                return r;
            }
        }
        return -3;
    }

    private boolean has(int by, int team, int service, int r) {
        return handed.stream().anyMatch(h -> h.by == by && h.team == team && h.service == service && h.put == r);
    }

    /** POINTS, of UP, of STOLEN, taken off, of what happened ahead of a ROUND and of these hand-ins. */
    private int[] pointsOf(int team, int ahead, List<Handed> all) {
        int up = 0;
        for (int s = 0; s < 3; s++) {
            for (int r = 0; r < Math.min(rounds, ahead); r++) {
                up += 10 * up(team, s, r);
            }
        }
        int stolen = 0;
        int off = 0;
        for (Handed h : all) {
            if (h.came >= ahead) {
                continue;
            }
            int k = 0;
            for (Handed o : all) {
                k += o.came < ahead && o.team == h.team && o.service == h.service && o.put == h.put ? 1 : 0;
            }
            stolen += h.by == team ? 60 / k : 0;
            off += h.team == team ? 4 : 0;
        }
        return new int[] {up + stolen - off, up, stolen, off};
    }

    int points(int team, int what) {
        if (team < 0 || team >= teams || what < 0 || what > 4) {
            return -1000000;
        }
        if (what == 4) {
            return (int) handed.stream().filter(h -> h.by == team).count();
        }
        return pointsOf(team, 1000, handed)[what];
    }

    int board(int place, int what) {
        if (place < 0 || place >= teams || what < 0 || what > 1) {
            return -1000000;
        }
        List<int[]> rows = new ArrayList<>();
        for (int t = 0; t < teams; t++) {
            rows.add(new int[] {t, pointsOf(t, settings[3], handed)[0]});
        }
        rows.sort((x, y) -> x[1] != y[1] ? y[1] - x[1] : x[0] - y[0]);
        return rows.get(place)[what];
    }

    int gain(int set) {
        Set<Integer> members = new HashSet<>();
        for (int bit = 0; bit < 32; bit++) {
            if ((set >>> bit & 1) == 1) {
                members.add(bit);
            }
        }
        if (members.size() < 2 || members.stream().anyMatch(m -> m >= teams)) {
            return -1000000;
        }
        if (rounds == 0) {
            return -1000001;
        }
        List<Handed> then = new ArrayList<>(handed);
        for (int by : members) {
            for (int owner : members) {
                for (int s = 0; s < 3; s++) {
                    if (by != owner && !has(by, owner, s, rounds - 1)) {
                        then.add(new Handed(by, owner, s, rounds - 1, rounds - 1));
                    }
                }
            }
        }
        int more = 0;
        for (int m : members) {
            more += pointsOf(m, 1000, then)[0] - pointsOf(m, 1000, handed)[0];
        }
        return more;
    }

    int alike(int team, int service) {
        if (!isThere(team, service)) {
            return -1;
        }
        if (rounds == 0) {
            return -3;
        }
        List<Checked> list = checks.get(key(team, service));
        return (int) sent.stream().filter(l -> l.round == rounds - 1 && l.team == team && l.service == service
                && list.stream().anyMatch(c -> c.kind + 1 == l.a && c.number == l.b)).count();
    }

    int count(int what) {
        return switch (what) {
            case 0 -> teams;
            case 1 -> rounds;
            case 2 -> handed.size();
            case 3 -> sent.size();
            case 4 -> tape.length();
            case 5 -> (int) (fuelUsed % 1000000);
            default -> -1;
        };
    }
}
