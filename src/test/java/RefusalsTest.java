import java.util.ArrayList;
import java.util.List;

/**
 * Part 4 of the document: each refusal of each call, of several the first one told, and that they change nothing.
 * Each stage of play is made twice; one of the two has all refused calls on top, and must answer as the other then.
 */
public final class RefusalsTest {
    private static final int NONE = ServiceGame.NONE, BAD = ServiceGame.BAD, STATE = ServiceGame.STATE, FULL = ServiceGame.FULL;
    private static final int NO_POINTS = -1000000, NO_ROUND_YET = -1000001;
    private static final int MOST = Integer.MAX_VALUE, LEAST = Integer.MIN_VALUE;

    private interface Call {
        int on(ServiceGame game);
    }

    private record Refused(String name, Call call, int want) { }

    private interface Stage {
        void play(ServiceGame game);
    }

    private final List<Refused> calls = new ArrayList<>();

    public static void main(String[] args) {
        Due.words("REFUSALS, of several the first one told; They change nothing");
        newObject();
        aheadOfARound();
        afterRounds();
        allFull();
        Due.close();
    }

    private void add(String name, int want, Call call) {
        calls.add(new Refused(name, call, want));
    }

    private void holdsAt(String where, Stage stage, Stage later) {
        ServiceGame game = new ServiceGame();
        ServiceGame twin = new ServiceGame();
        stage.play(game);
        stage.play(twin);
        String ahead = Play.state(game);
        for (Refused r : calls) {
            Due.is(where + ": " + r.name, r.call.on(game), r.want);
            Play.unchanged(where + ": " + r.name, game, ahead);
        }
        later.play(game);
        later.play(twin);
        Due.same(where + ", refused calls and play on: the state", Play.state(game), Play.state(twin));
    }

    /** What is NONE at every time, with this many TEAMS. */
    private void noSuch(int teams) {
        // 1431655766 times 3 is 2 by Java's wrap-around; some pairs meet another SERVICE by team times 3 and service
        int[][] places = {{-1, 0}, {teams, 0}, {teams + 1, 2}, {5, 0}, {6, 0}, {MOST, 0}, {LEAST, 0}, {1431655766, 0},
            {-1, 3}, {0, -1}, {0, 3}, {1, -1}, {1, 3}, {0, MOST}, {0, LEAST}, {-1, -1}, {MOST, MOST}, {LEAST, 3}};
        for (int[] p : places) {
            String at = "(" + p[0] + ", " + p[1] + ", ..)";
            add("patch" + at, NONE, g -> g.patch(p[0], p[1]));
            add("unpatch" + at, NONE, g -> g.unpatch(p[0], p[1]));
            add("alike" + at, NONE, g -> g.alike(p[0], p[1]));
            for (int third : new int[] {0, -1, 99}) {
                add("cell" + at + third, NONE, g -> g.cell(p[0], p[1], third));
                add("about" + at + third, NONE, g -> g.about(p[0], p[1], third));
                add("up" + at + third, NONE, g -> g.up(p[0], p[1], third));
                add("flag" + at + third, NONE, g -> g.flag(p[0], p[1], third));
                add("check" + at + third, NONE, g -> g.check(p[0], p[1], third, 0));
            }
            for (int number : new int[] {0, -1, 10000}) {
                add("letter" + at + number, NONE, g -> g.letter(0, p[0], p[1], number, 0));
                add("hand" + at + number, NONE, g -> g.hand(0, p[0], p[1], number));
                add("hand by itself" + at + number, NONE, g -> g.hand(p[0], p[0], p[1], number));
            }
        }
        for (int team : new int[] {-1, teams, 5, MOST, LEAST, 1431655766}) {
            add("letter from " + team, NONE, g -> g.letter(team, 0, 0, 0, 0));
            add("letter from " + team + " of no numbers", NONE, g -> g.letter(team, 0, 0, -1, 10000));
            add("hand by " + team, NONE, g -> g.hand(team, 0, 0, 1000));
            add("hand by " + team + " of no FLAG", NONE, g -> g.hand(team, 0, 0, -1));
            add("points of " + team, NO_POINTS, g -> g.points(team, 0));
            add("board at " + team, NO_POINTS, g -> g.board(team, 0));
        }
        for (int what : new int[] {-1, 9, MOST, LEAST}) {
            add("about what " + what, NONE, g -> g.about(0, 0, what));
            add("cell " + what, NONE, g -> g.cell(0, 0, what));
            add("check i " + what, NONE, g -> g.check(0, 0, what, 0));
            add("check what " + what, NONE, g -> g.check(0, 0, 0, what));
            add("set what " + what, NONE, g -> g.set(what, 1));
            add("set what " + what + " to no number", NONE, g -> g.set(what, -1));
            add("count what " + what, NONE, g -> g.count(what));
            add("points what " + what, NO_POINTS, g -> g.points(0, what));
            add("board what " + what, NO_POINTS, g -> g.board(0, what));
        }
        justBehind();
        add("up of a ROUND below 0", NONE, g -> g.up(0, 0, -1));
        add("flag of a ROUND below 0", NONE, g -> g.flag(0, 0, -1));
        add("up of the ROUND to come", NONE, g -> g.up(0, 0, g.count(1)));
        add("flag of the ROUND to come", NONE, g -> g.flag(0, 0, g.count(1)));
        add("up of ROUND 100", NONE, g -> g.up(0, 0, 100));
        add("flag of ROUND 100", NONE, g -> g.flag(0, 0, 100));
    }

    private void justBehind() {
        add("about what 5", NONE, g -> g.about(0, 0, 5));
        add("cell 8", NONE, g -> g.cell(0, 0, 8));
        add("check i 3", NONE, g -> g.check(0, 0, 3, 0));
        add("check what 4", NONE, g -> g.check(0, 0, 0, 4));
        add("set what 7", NONE, g -> g.set(7, 1));
        add("count what 6", NONE, g -> g.count(6));
        add("points what 5", NO_POINTS, g -> g.points(0, 5));
        add("board what 2", NO_POINTS, g -> g.board(0, 2));
    }

    /** What is BAD at every time, with TEAMS or without. */
    private void badNumbers(int teams) {
        for (int n : new int[] {0, 9, -1, -8, 64, MOST, LEAST}) {
            add("feed of " + n, BAD, g -> g.feed(0x6868686868686868L, n));
        }
        int[][] outside = {{0, 501}, {-1, 1000}, {0, 10}, {-1, 101}, {-1, 10000}, {-1, 10000}, {-1, 10000}};
        for (int what = 0; what < 7; what++) {
            for (int n : new int[] {outside[what][0], outside[what][1], MOST, LEAST}) {
                int of = what;
                add("set(" + what + ", " + n + ")", BAD, g -> g.set(of, n));
            }
        }
        for (int set : new int[] {0, 1, 1 << teams, 1 << teams | 3, 32, 35, -1, LEAST, LEAST | 3, MOST}) {
            add("gain(" + set + ")", NO_POINTS, g -> g.gain(set));
        }
    }

    private void badNumbersOfTeams(int a, int b) {
        for (int n : new int[] {-1, 10000, 11000, -9000, MOST, LEAST}) {
            add("letter of " + n + ", 0", BAD, g -> g.letter(a, b, 0, n, 0));
            add("letter of 0, " + n, BAD, g -> g.letter(a, b, 0, 0, n));
            add("hand of " + n, BAD, g -> g.hand(a, b, 0, n));
            add("hand of its own " + n, BAD, g -> g.hand(b, b, 0, n));
        }
        for (int s = 0; s < 3; s++) {
            int service = s;
            add("hand of its own, SERVICE " + s, BAD, g -> g.hand(b, b, service, 1000));
            add("hand of its own FLAG, SERVICE " + s, BAD, g -> g.hand(b, b, service, Math.max(0, g.flag(b, service, 0))));
        }
    }

    /** Uses all that a refused call might have touched unseen: THE TAPE's bytes, PATCHES, LETTERS since the ROUND. */
    private static void playOn(ServiceGame game) {
        game.feed(0x3B68, 2);
        game.patch(0, 1);
        game.letter(0, 0, 0, 3, 0);
        game.round();
        game.letter(0, 0, 0, 1, 17);
        game.letter(0, 0, 1, 3, 0);
        game.hand(1, 0, 0, game.flag(0, 0, 0));
        game.round();
    }

    private static void newObject() {
        RefusalsTest test = new RefusalsTest();
        test.noSuch(0);
        test.badNumbers(0);
        test.add("round()", STATE, ServiceGame::round);
        test.add("letter(0, 0, 0, 0, 0)", NONE, g -> g.letter(0, 0, 0, 0, 0));
        test.add("hand(1, 0, 0, 1000)", NONE, g -> g.hand(1, 0, 0, 1000));
        test.add("patch(0, 0)", NONE, g -> g.patch(0, 0));
        test.add("gain(3)", NO_POINTS, g -> g.gain(3));
        test.holdsAt("new object", g -> g.feed(0x70313B6FL, 4), g -> {
            twoTeams(g);
            playOn(g);
        });
    }

    private static void twoTeams(ServiceGame game) {
        game.team();
        game.team();
    }

    private static void begin(ServiceGame game) {
        twoTeams(game);
        game.team();
        game.set(1, 77);
        game.set(2, 2);
        game.set(4, 3);
        Play.patch(game, 0, 0, "a;s0;b;s1;l0;o");
        Play.patch(game, 1, 2, Play.GOOD);
        Play.feed(game, "p1;h");
        game.letter(1, 0, 0, 3, 0);
        game.letter(2, 0, 0, 1, 77 * 31 % 997);
    }

    private static void aheadOfARound() {
        RefusalsTest test = new RefusalsTest();
        test.noSuch(3);
        test.badNumbers(3);
        test.badNumbersOfTeams(0, 1);
        test.add("unpatch(0, 1): none waits", STATE, g -> g.unpatch(0, 1));
        test.add("unpatch(2, 2): none waits", STATE, g -> g.unpatch(2, 2));
        for (int i = 0; i < 9; i++) {
            int t = i / 3;
            int s = i % 3;
            test.add("up(.., 0)", NONE, g -> g.up(t, s, 0));
            test.add("flag(.., 0)", NONE, g -> g.flag(t, s, 0));
            test.add("check(.., 0, 0)", NONE, g -> g.check(t, s, 0, 0));
            test.add("alike", STATE, g -> g.alike(t, s));
            test.add("hand", STATE, g -> g.hand((t + 1) % 3, t, s, (77 * 31 + t * 7 + s * 3) % 997 * 13 + 1000));
        }
        test.add("gain(3)", NO_ROUND_YET, g -> g.gain(3));
        test.add("gain(7)", NO_ROUND_YET, g -> g.gain(7));
        test.holdsAt("ahead of a ROUND", RefusalsTest::begin, RefusalsTest::playOn);
    }

    private static void afterRounds() {
        RefusalsTest test = new RefusalsTest();
        test.noSuch(3);
        test.badNumbers(3);
        test.badNumbersOfTeams(1, 2);
        test.add("team()", STATE, ServiceGame::team);
        test.add("set(1, 0)", STATE, g -> g.set(1, 0));
        test.add("set(1, 77)", STATE, g -> g.set(1, 77));
        test.add("set(1, 999)", STATE, g -> g.set(1, 999));
        test.add("set(2, 1)", STATE, g -> g.set(2, 1));
        test.add("set(2, 9)", STATE, g -> g.set(2, 9));
        test.add("unpatch(0, 0): none waits", STATE, g -> g.unpatch(0, 0));
        test.add("unpatch(1, 2): none waits", STATE, g -> g.unpatch(1, 2));
        test.add("hand of a FLAG that is handed in", STATE, g -> g.hand(2, 0, 0, g.flag(0, 0, 3)));
        test.add("hand of a FLAG too old", STATE, g -> g.hand(2, 0, 0, g.flag(0, 0, 1)));
        test.add("hand of a FLAG of another SERVICE", STATE, g -> g.hand(2, 0, 0, g.flag(0, 1, 3)));
        test.add("hand of no FLAG", STATE, g -> g.hand(2, 0, 0, 0));
        test.holdsAt("after four ROUNDS", g -> {
            begin(g);
            Play.rounds(g, 4);
            g.hand(2, 0, 0, g.flag(0, 0, 3));
            g.hand(1, 0, 0, g.flag(0, 0, 2));
            Play.patch(g, 2, 1, "p5;o");
            Play.feed(g, "p1;h");
            g.letter(1, 0, 0, 3, 0);
        }, RefusalsTest::playOn);
    }

    private static void allFull() {
        RefusalsTest test = new RefusalsTest();
        test.noSuch(5);
        test.badNumbers(5);
        test.badNumbersOfTeams(3, 4);
        test.add("team()", FULL, ServiceGame::team);
        for (int n = 1; n <= 8; n++) {
            int size = n;
            test.add("feed of " + n, FULL, g -> g.feed(0x6868686868686868L, size));
        }
        for (int i = 0; i < 15; i++) {
            int t = i / 3;
            int s = i % 3;
            test.add("letter", FULL, g -> g.letter(t, (t + 1) % 5, s, 3, 0));
        }
        Stage full = g -> {
            for (int t = 0; t < 5; t++) {
                g.team();
            }
            Play.feed(g, Play.steps("p1", 40) + "x");
            for (int i = 0; i < 400; i++) {
                g.letter(i % 5, i / 5 % 5, i % 3, 3, 0);
            }
        };
        test.holdsAt("TEAMS, THE TAPE and LETTERS full", full, RefusalsTest::playOn);
        RefusalsTest last = new RefusalsTest();
        last.add("round()", FULL, ServiceGame::round);
        last.add("team(): STATE is told ahead", STATE, ServiceGame::team);
        last.holdsAt("ROUNDS full", g -> {
            full.play(g);
            Play.rounds(g, 100);
            Play.patch(g, 0, 0, "p1;o");
            g.letter(0, 0, 0, 3, 0);
        }, RefusalsTest::playOn);
    }
}
