/** Promises 10 round, 11 up, 12 check, 13 flag. */
public final class RoundsTest {
    private static final String[] ORDERS = {"CPG", "CGP", "PCG", "PGC", "GCP", "GPC"};

    public static void main(String[] args) {
        ordersAndNumbers(0);
        ordersAndNumbers(1);
        ordersAndNumbers(999);
        rightAnswers();
        getAheadOfPut();
        anythingInRoundZero();
        upOfRounds();
        refusals();
        hundredRounds();
        Due.close();
    }

    private static int mix(int seed, int r, int t, int s) {
        return (seed * 31 + r * 17 + t * 7 + s * 3) % 997;
    }

    private static int flag(int seed, int r, int t, int s) {
        return (mix(seed, r, t, s) * 13 + 1000) % 10000;
    }

    private static void ordersAndNumbers(int seed) {
        ServiceGame game = Play.withTeams(5);
        game.set(1, seed);
        for (int r = 0; r < 12; r++) {
            Due.is("round(): no PROGRAM is UP", game.round(), 0);
            for (int i = 0; i < 45; i++) {
                checkOf(game, seed, r, i / 9, i / 3 % 3, i % 3);
            }
        }
        for (int i = 0; i < 180; i++) {
            int t = i / 36;
            int s = i / 12 % 3;
            int r = i % 12;
            Due.is("flag(" + t + ", " + s + ", " + r + ")", game.flag(t, s, r), flag(seed, r, t, s));
        }
    }

    private static void checkOf(ServiceGame game, int seed, int r, int t, int s, int i) {
        int mix = mix(seed, r, t, s);
        char kind = ORDERS[mix % 6].charAt(i);
        String call = "seed " + seed + " round " + r + ": check(" + t + ", " + s + ", " + i + ", ..)";
        Due.is(call + " 0", game.check(t, s, i, 0), "CPG".indexOf(kind));
        Due.is(call + " 1", game.check(t, s, i, 1), kind == 'C' ? mix : kind == 'P' ? flag(seed, r, t, s) : 0);
        Due.is(call + " 2", game.check(t, s, i, 2), 10000);
        boolean anything = kind == 'G' && r == 0 && ORDERS[mix % 6].indexOf('P') > i;
        Due.is(call + " 3", game.check(t, s, i, 3), anything ? 1 : 0);
    }

    private static void rightAnswers() {
        ServiceGame game = Play.withTeams(5);
        game.set(1, 123);
        for (int i = 0; i < 15; i++) {
            Play.patch(game, i / 3, i % 3, Play.GOOD);
        }
        for (int r = 0; r < 20; r++) {
            Due.is("round() " + r, game.round(), 15);
            for (int i = 0; i < 15; i++) {
                rightChecks(game, r, i / 3, i % 3);
            }
        }
        Due.is("about(4, 2, 2)", game.about(4, 2, 2), 20);
    }

    private static void rightChecks(ServiceGame game, int r, int t, int s) {
        int putAt = ORDERS[mix(123, r, t, s) % 6].indexOf('P');
        for (int i = 0; i < 3; i++) {
            int kind = game.check(t, s, i, 0);
            int kept = i > putAt ? flag(123, r, t, s) : r == 0 ? 0 : flag(123, r - 1, t, s);
            int want = kind == 0 ? mix(123, r, t, s) + 1 : kind == 1 ? 0 : kept;
            Due.is("check 2 of round " + r + " of " + t + "." + s + ", " + i, game.check(t, s, i, 2), want);
            Due.is("check 3 of round " + r + " of " + t + "." + s + ", " + i, game.check(t, s, i, 3), 1);
        }
    }

    /** The FLAG of the ROUND ahead is due although its PUT was answered wrongly. */
    private static void getAheadOfPut() {
        ServiceGame game = Play.withTeams(1);
        // ROUND 0: MIX 0, CPG; ROUND 1: MIX 17, GPC; ROUND 2: MIX 34, GCP
        Play.patch(game, 0, 0, Play.GOOD);
        Due.is("round() 0", game.round(), 1);
        Due.is("check 0 of round 0", game.check(0, 0, 0, 0), 0);
        // PUT has no ANSWER and is not kept; GET has the FLAGS of ROUND 0, 1, 2 by turns.
        String get = "l1;p221;+;s1;p1000;l1;p221;-;+;o";
        String text = "a;p1;=;j8;b;p1;+;o;a;p3;=;j22;" + get + ";h";
        Due.is("patch", Play.patch(game, 0, 0, text), 23);
        Due.is("round() 1: PUT is answered wrongly", game.round(), 0);
        Due.is("check 0 of round 1", game.check(0, 0, 0, 0), 2);
        Due.is("check 2 of round 1: GET has the FLAG of ROUND 0", game.check(0, 0, 0, 2), 1000);
        Due.is("check 3 of round 1: GET is right", game.check(0, 0, 0, 3), 1);
        Due.is("check 2 of round 1: PUT has no ANSWER", game.check(0, 0, 1, 2), 10000);
        Due.is("check 3 of round 1: PUT is wrong", game.check(0, 0, 1, 3), 0);
        Due.is("check 3 of round 1: CHECK is right", game.check(0, 0, 2, 3), 1);
        Due.is("round() 2", game.round(), 0);
        Due.is("check 0 of round 2", game.check(0, 0, 0, 0), 2);
        Due.is("check 2 of round 2: GET has the FLAG of ROUND 1", game.check(0, 0, 0, 2), 1221);
        Due.is("check 3 of round 2: GET is right", game.check(0, 0, 0, 3), 1);
        Due.is("round() 3", game.round(), 0);
        Due.is("round() 3: PUT is ahead of GET", game.check(0, 0, 0, 0), 1);
        Due.is("check 2 of round 3: GET has the FLAG of ROUND 2", game.check(0, 0, 1, 2), 1442);
        Due.is("check 3 of round 3: GET is wrong", game.check(0, 0, 1, 3), 0);
    }

    private static void anythingInRoundZero() {
        // MIX 7 of TEAM 1's SERVICE 0: CGP
        for (String get : new String[] {"p77;o", "h;h", "+;h", "g8;h"}) {
            ServiceGame game = Play.withTeams(2);
            String text = "a;p1;=;j10;b;p1;+;o;g8;h;a;p3;=;j16;" + get + ";p0;o";
            Due.is("patch", Play.patch(game, 1, 0, text), 18);
            Due.is("round() with GET by " + get, game.round(), 1);
            Due.is("check 0", game.check(1, 0, 1, 0), 2);
            Due.is("check 3", game.check(1, 0, 1, 3), 1);
            Due.is("up(1, 0, 0)", game.up(1, 0, 0), 1);
        }
    }

    private static void upOfRounds() {
        ServiceGame game = Play.withTeams(2);
        Play.patch(game, 1, 2, Play.GOOD);
        for (int r = 0; r < 9; r++) {
            game.set(6, r % 3 == 0 ? 1 : 2);
            Due.is("round() " + r, game.round(), r % 3 == 0 ? 1 : 0);
        }
        for (int r = 0; r < 9; r++) {
            Due.is("up(1, 2, " + r + ")", game.up(1, 2, r), r % 3 == 0 ? 1 : 0);
            Due.is("up(1, 1, " + r + ")", game.up(1, 1, r), 0);
        }
        Due.is("about(1, 2, 2)", game.about(1, 2, 2), 3);
        game.set(6, 1);
        game.set(0, 7);
        Due.is("round() with too little FUEL", game.round(), 0);
        Due.is("about(1, 2, 4)", game.about(1, 2, 4), 3);
    }

    private static void refusals() {
        ServiceGame game = Play.withTeams(2);
        Due.is("up ahead of a ROUND", game.up(0, 0, 0), ServiceGame.NONE);
        Due.is("flag ahead of a ROUND", game.flag(0, 0, 0), ServiceGame.NONE);
        Due.is("check ahead of a ROUND", game.check(0, 0, 0, 0), ServiceGame.NONE);
        Play.rounds(game, 2);
        int[][] wrong = {{2, 0, 0}, {-1, 0, 0}, {0, 3, 0}, {0, -1, 0}, {0, 0, 2}, {0, 0, -1}, {0, 0, 100},
            {0, 0, Integer.MAX_VALUE}, {0, 0, Integer.MIN_VALUE}, {Integer.MAX_VALUE, 0, 0}};
        for (int[] w : wrong) {
            Due.is("up" + java.util.Arrays.toString(w), game.up(w[0], w[1], w[2]), ServiceGame.NONE);
            Due.is("flag" + java.util.Arrays.toString(w), game.flag(w[0], w[1], w[2]), ServiceGame.NONE);
        }
        Due.is("check of TEAM 2", game.check(2, 0, 0, 0), ServiceGame.NONE);
        Due.is("check of SERVICE 3", game.check(0, 3, 0, 0), ServiceGame.NONE);
        Due.is("check of LETTER 3", game.check(0, 0, 3, 0), ServiceGame.NONE);
        Due.is("check of LETTER -1", game.check(0, 0, -1, 0), ServiceGame.NONE);
        Due.is("check of what 4", game.check(0, 0, 0, 4), ServiceGame.NONE);
        Due.is("check of what -1", game.check(0, 0, 0, -1), ServiceGame.NONE);
    }

    private static void hundredRounds() {
        ServiceGame game = Play.withTeams(1);
        Play.patch(game, 0, 0, Play.GOOD);
        for (int r = 0; r < 100; r++) {
            Due.is("round() " + r, game.round(), 1);
        }
        Play.patch(game, 0, 1, "h");
        String ahead = Play.state(game);
        Due.is("round() 100", game.round(), ServiceGame.FULL);
        Play.unchanged("round() 100", game, ahead);
        Due.is("about(0, 0, 2)", game.about(0, 0, 2), 100);
        Due.is("up(0, 0, 99)", game.up(0, 0, 99), 1);
        Due.is("flag(0, 0, 99)", game.flag(0, 0, 99), flag(0, 99, 0, 0));
        Due.is("points(0, 1)", game.points(0, 1), 1000);
    }
}
