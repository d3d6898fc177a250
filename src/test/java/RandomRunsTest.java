import java.util.Random;

/** All promises: runs of 512 calls with right and wrong arguments, each answer held against the Model's. */
public final class RandomRunsTest {
    private static final int RUNS = 600, CALLS = 512;
    private static final int[] FAR = {-1, -2, 100, 9999, 10000, 12345, Integer.MAX_VALUE, Integer.MIN_VALUE};
    private static final String[] STEPS = {"p0", "p1", "p2", "p3", "p9999", "a", "b", "a", "b", "l0", "l1", "l7", "s0",
        "s1", "s7", "+", "-", "*", "=", "<", "j0", "j2", "j5", "j11", "g1", "g4", "g9", "g23", "o", "h"};

    private final Random random;
    private final ServiceGame game = new ServiceGame();
    private final Model model = new Model();
    private final int teams;
    private int calls;

    private RandomRunsTest(int seed) {
        random = new Random(seed);
        teams = 1 + random.nextInt(5);
    }

    public static void main(String[] args) {
        for (int seed = 0; seed < RUNS && Due.failed() == 0; seed++) {
            new RandomRunsTest(seed).run(seed);
        }
        Due.close();
    }

    private void run(int seed) {
        boolean manyLetters = random.nextBoolean();
        for (int t = 0; t < teams; t++) {
            due("team()", game.team(), model.team());
        }
        while (calls < CALLS && Due.failed() == 0) {
            int kind = random.nextInt(manyLetters ? 30 : 26);
            boolean feedsAhead = kind == 1 || kind == 2;
            String ahead = !feedsAhead && random.nextInt(40) == 0 ? Play.state(game) : null;
            int answer = call(kind);
            boolean refused = answer < 0 && answer >= -4 || answer <= -1000000;
            if (ahead != null && refused) {
                Play.unchanged("a refused call", game, ahead);
            }
        }
        askAll();
        if (Due.failed() > 0) {
            System.out.println("in the run of seed " + seed + ", at call " + calls);
        }
    }

    private int due(String call, int got, int want) {
        Due.is(call, got, want);
        calls++;
        return got;
    }

    private boolean seldom() {
        return random.nextInt(25) == 0;
    }

    private int near(int size) {
        return seldom() ? random.nextBoolean() ? size : FAR[random.nextInt(FAR.length)] : random.nextInt(size);
    }

    private int team() {
        return near(teams);
    }

    private int service() {
        return near(3);
    }

    private int roundNumber() {
        return near(Math.max(1, game.count(1)));
    }

    private int call(int kind) {
        int t = team();
        int s = service();
        switch (kind) {
            case 0: return seldom() ? due("team()", game.team(), model.team()) : write(t, s);
            case 1: case 2: return program(t, s);
            case 3: return due("unpatch " + t + s, game.unpatch(t, s), model.unpatch(t, s));
            case 4: return cell(t, s, near(8));
            case 5: return about(t, s, near(5));
            case 6: return setting();
            case 7: case 8: case 9: case 10: return write(t, s);
            case 11: case 12: case 13: return due("round()", game.round(), model.round());
            case 14: return upAndFlag(t, s, roundNumber());
            case 15: return check(t, s, near(3), near(4));
            case 16: case 17: case 18: case 19: return hand(t, s);
            case 20: return points(t, near(5));
            case 21: return board(near(teams), near(2));
            case 22: return gain(near(1 << teams));
            case 23: return due("alike " + t + s, game.alike(t, s), model.alike(t, s));
            case 24: return count(near(6));
            default: return random.nextBoolean() ? hand(t, s) : write(t, s);
        }
    }

    private int cell(int t, int s, int c) {
        return due("cell " + t + " " + s + " " + c, game.cell(t, s, c), model.cell(t, s, c));
    }

    private int about(int t, int s, int what) {
        return due("about " + t + " " + s + " " + what, game.about(t, s, what), model.about(t, s, what));
    }

    private int upAndFlag(int t, int s, int r) {
        due("flag " + t + " " + s + " " + r, game.flag(t, s, r), model.flag(t, s, r));
        return due("up " + t + " " + s + " " + r, game.up(t, s, r), model.up(t, s, r));
    }

    private int check(int t, int s, int i, int what) {
        return due("check " + t + " " + s + " " + i + " " + what, game.check(t, s, i, what), model.check(t, s, i, what));
    }

    private int points(int t, int what) {
        return due("points " + t + " " + what, game.points(t, what), model.points(t, what));
    }

    private int board(int place, int what) {
        return due("board " + place + " " + what, game.board(place, what), model.board(place, what));
    }

    private int gain(int set) {
        return due("gain " + set, game.gain(set), model.gain(set));
    }

    private int count(int what) {
        return due("count " + what, game.count(what), model.count(what));
    }

    private int setting() {
        int what = near(7);
        int[] usual = {60, random.nextInt(1000), 1 + random.nextInt(9), random.nextInt(40), 1, 1, 1};
        boolean tame = what >= 0 && what < 7 && random.nextInt(3) > 0;
        int n = tame ? usual[what] : random.nextInt(4) == 0 ? random.nextInt(12000) - 100 : random.nextInt(510);
        return due("set " + what + " " + n, game.set(what, n), model.set(what, n));
    }

    private int program(int t, int s) {
        String text = random.nextInt(3) == 0 ? Play.GOOD : someSteps();
        if (random.nextInt(4) == 0 && !text.isEmpty()) {
            int at = random.nextInt(text.length());
            text = text.substring(0, at) + "apjlg;0189xo\u0000\u00e1".charAt(random.nextInt(14)) + text.substring(at + 1);
        }
        int at = 0;
        while (at < text.length()) {
            int n = Math.min(text.length() - at, 1 + random.nextInt(8));
            long w = random.nextLong();
            for (int i = 0; i < n; i++) {
                w = w << 8 | text.charAt(at + i);
            }
            due("feed " + w + " " + n, game.feed(w, n), model.feed(w, n));
            at += n;
        }
        if (seldom()) {
            int n = near(9);
            return due("feed 97 " + n, game.feed(97, n), model.feed(97, n));
        }
        return due("patch " + t + " " + s + " of " + text, game.patch(t, s), model.patch(t, s));
    }

    private String someSteps() {
        int steps = random.nextInt(12) == 0 ? 20 + random.nextInt(9) : random.nextInt(16);
        StringBuilder text = new StringBuilder();
        for (int i = 0; i < steps; i++) {
            text.append(i == 0 ? "" : ";").append(STEPS[random.nextInt(STEPS.length)]);
        }
        return text.toString();
    }

    private int write(int t, int s) {
        int from = team();
        int a = random.nextInt(3) == 0 ? near(10000) : random.nextInt(5);
        int b = near(10000);
        int mix = (game.count(1) * 17 + t * 7 + s * 3) % 997;
        if (random.nextInt(3) == 0) {
            a = 1 + random.nextInt(3);
            b = a == 1 ? mix : a == 2 ? (mix * 13 + 1000) % 10000 : 0;
        }
        String call = "letter " + from + " " + t + " " + s + " " + a + " " + b;
        return due(call, game.letter(from, t, s, a, b), model.letter(from, t, s, a, b));
    }

    private int hand(int t, int s) {
        int by = team();
        int flag = random.nextInt(8) == 0 ? near(10000) : game.flag(t, s, game.count(1) - 1 - random.nextInt(5));
        return due("hand " + by + " " + t + " " + s + " " + flag, game.hand(by, t, s, flag), model.hand(by, t, s, flag));
    }

    private void askAll() {
        for (int t = 0; t < teams; t++) {
            for (int i = 0; i < 24; i++) {
                cell(t, i / 8, i % 8);
            }
            for (int i = 0; i < 15; i++) {
                about(t, i / 5, i % 5);
                points(t, i % 5);
            }
            for (int i = 0; i < 36; i++) {
                check(t, i / 12, i / 4 % 3, i % 4);
            }
            for (int s = 0; s < 3; s++) {
                due("alike " + t + s, game.alike(t, s), model.alike(t, s));
                for (int r = 0; r <= game.count(1); r++) {
                    upAndFlag(t, s, r);
                }
            }
            board(t, 0);
            board(t, 1);
        }
        for (int what = 0; what < 6; what++) {
            count(what);
        }
        for (int set = 0; set < 1 << teams; set++) {
            gain(set);
        }
    }
}
