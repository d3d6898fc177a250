/** Promises 14 hand, 15 points, 16 board. */
public final class PointsTest {
    public static void main(String[] args) {
        handing();
        life();
        handRefusals();
        shares();
        pointsRefusals();
        board();
        frozen();
        frozenShares();
        Due.close();
    }

    private static void handing() {
        ServiceGame game = Play.withTeams(3);
        Due.is("hand ahead of a ROUND", game.hand(1, 0, 0, 1000), ServiceGame.STATE);
        Play.rounds(game, 3);
        for (int s = 0; s < 3; s++) {
            for (int r : new int[] {1, 2, 0}) {
                Due.is("hand of ROUND " + r, game.hand(2, 1, s, game.flag(1, s, r)), r);
                Due.is("hand again", game.hand(2, 1, s, game.flag(1, s, r)), ServiceGame.STATE);
                Due.is("hand by another TEAM", game.hand(0, 1, s, game.flag(1, s, r)), r);
            }
        }
        Due.is("hand of another SERVICE's", game.hand(2, 0, 1, game.flag(0, 0, 2)), ServiceGame.STATE);
        Due.is("hand of another TEAM's", game.hand(2, 0, 0, game.flag(1, 0, 2)), ServiceGame.STATE);
        Due.is("hand of none", game.hand(2, 0, 0, 0), ServiceGame.STATE);
        Due.is("count(2)", game.count(2), 18);
        Due.is("points(2, 4)", game.points(2, 4), 9);
        Due.is("points(1, 4)", game.points(1, 4), 0);
    }

    private static void life() {
        for (int life : new int[] {1, 3, 9}) {
            ServiceGame game = Play.withTeams(2);
            game.set(2, life);
            Play.rounds(game, 12);
            for (int r = 0; r < 12; r++) {
                boolean lives = 11 - r <= life - 1;
                Due.is("hand of ROUND " + r + " with LIFE " + life, game.hand(1, 0, 2, game.flag(0, 2, r)),
                        lives ? r : ServiceGame.STATE);
            }
            Due.is("hand of the FLAG to come", game.hand(1, 0, 2, ((12 * 17 + 6) * 13 + 1000) % 10000),
                    ServiceGame.STATE);
        }
        ServiceGame last = Play.withTeams(2);
        Play.rounds(last, 100);
        Due.is("hand of ROUND 99", last.hand(1, 0, 0, last.flag(0, 0, 99)), 99);
        Due.is("hand of ROUND 96", last.hand(1, 0, 0, last.flag(0, 0, 96)), ServiceGame.STATE);
        Due.is("points(1, 2)", last.points(1, 2), 60);
        Due.is("board(0, 1)", last.board(0, 1), 60);
    }

    private static void handRefusals() {
        ServiceGame game = Play.withTeams(2);
        game.round();
        int[][] none = {{2, 0, 0, 1000}, {-1, 0, 0, 1000}, {0, 2, 0, 1000}, {0, -1, 0, 1000}, {1, 0, 3, 1000},
            {1, 0, -1, 1000}, {1, 0, 3, -1}, {2, 0, 0, 10000}, {2, 2, 0, 1000}, {0, 0, 3, 1000}};
        int[][] bad = {{1, 0, 0, -1}, {1, 0, 0, 10000}, {0, 0, 0, 1000}, {1, 1, 0, 1091}, {0, 0, 0, -1},
            {1, 0, 0, Integer.MIN_VALUE}, {1, 0, 0, Integer.MAX_VALUE}, {1, 0, 0, 11000}};
        for (int[] call : none) {
            refused(game, call, ServiceGame.NONE);
        }
        for (int[] call : bad) {
            refused(game, call, ServiceGame.BAD);
        }
        refused(game, new int[] {1, 0, 0, 1001}, ServiceGame.STATE);
    }

    private static void refused(ServiceGame game, int[] call, int want) {
        String text = "hand" + java.util.Arrays.toString(call);
        String ahead = Play.state(game);
        Due.is(text, game.hand(call[0], call[1], call[2], call[3]), want);
        Play.unchanged(text, game, ahead);
    }

    private static void points(ServiceGame game, int team, int up, int stolen, int off, int handed) {
        int[] want = {up + stolen - off, up, stolen, off, handed};
        for (int what = 0; what <= 4; what++) {
            Due.is("points(" + team + ", " + what + ")", game.points(team, what), want[what]);
        }
    }

    private static void shares() {
        ServiceGame game = Play.withTeams(5);
        Play.patch(game, 0, 0, Play.GOOD);
        Play.patch(game, 0, 1, Play.GOOD);
        Play.patch(game, 3, 2, Play.GOOD);
        game.round();
        int[] share = {0, 60, 30, 20, 15};
        for (int k = 1; k <= 4; k++) {
            game.hand(k, 0, 0, game.flag(0, 0, 0));
            points(game, 0, 20, 0, 4 * k, 0);
            for (int t = 1; t <= 4; t++) {
                points(game, t, t == 3 ? 10 : 0, t <= k ? share[k] : 0, 0, t <= k ? 1 : 0);
            }
        }
        game.hand(2, 0, 1, game.flag(0, 1, 0));
        points(game, 2, 0, 75, 0, 2);
        game.round();
        game.hand(0, 4, 1, game.flag(4, 1, 1));
        game.hand(0, 4, 1, game.flag(4, 1, 0));
        points(game, 0, 40, 120, 20, 2);
        points(game, 4, 0, 15, 8, 1);
    }

    private static void pointsRefusals() {
        ServiceGame game = Play.withTeams(2);
        points(game, 0, 0, 0, 0, 0);
        game.round();
        for (int team : new int[] {-1, 2, Integer.MAX_VALUE, Integer.MIN_VALUE}) {
            Due.is("points(" + team + ", 0)", game.points(team, 0), -1000000);
            Due.is("board(" + team + ", 0)", game.board(team, 0), -1000000);
            Due.is("board(" + team + ", 1)", game.board(team, 1), -1000000);
        }
        for (int what : new int[] {-1, 5, Integer.MAX_VALUE, Integer.MIN_VALUE}) {
            Due.is("points(0, " + what + ")", game.points(0, what), -1000000);
        }
        for (int what : new int[] {-1, 2, Integer.MAX_VALUE, Integer.MIN_VALUE}) {
            Due.is("board(0, " + what + ")", game.board(0, what), -1000000);
        }
    }

    private static void boardIs(ServiceGame game, int[] teams, int[] points) {
        for (int place = 0; place < teams.length; place++) {
            Due.is("board(" + place + ", 0)", game.board(place, 0), teams[place]);
            Due.is("board(" + place + ", 1)", game.board(place, 1), points[place]);
        }
    }

    private static void board() {
        ServiceGame game = Play.withTeams(4);
        boardIs(game, new int[] {0, 1, 2, 3}, new int[] {0, 0, 0, 0});
        Play.patch(game, 2, 0, Play.GOOD);
        game.round();
        boardIs(game, new int[] {2, 0, 1, 3}, new int[] {10, 0, 0, 0});
        game.hand(3, 0, 0, game.flag(0, 0, 0));
        boardIs(game, new int[] {3, 2, 1, 0}, new int[] {60, 10, 0, -4});
        game.hand(1, 0, 0, game.flag(0, 0, 0));
        boardIs(game, new int[] {1, 3, 2, 0}, new int[] {30, 30, 10, -8});
    }

    private static void frozen() {
        ServiceGame game = Play.withTeams(3);
        Play.patch(game, 0, 0, Play.GOOD);
        Play.rounds(game, 2);
        game.hand(2, 1, 0, game.flag(1, 0, 0));
        game.round();
        game.hand(1, 0, 0, game.flag(0, 0, 1));
        game.round();
        // ROUND 1: TEAM 2 took of TEAM 1; ROUND 2: TEAM 1 took of TEAM 0; ROUND 3: nothing but UP.
        int[][] teams = {{0, 1, 2}, {0, 1, 2}, {2, 0, 1}, {2, 1, 0}, {2, 1, 0}, {2, 1, 0}};
        int[][] points = {{0, 0, 0}, {10, 0, 0}, {60, 20, -4}, {60, 56, 26}, {60, 56, 36}, {60, 56, 36}};
        for (int from = 0; from <= 5; from++) {
            game.set(3, from);
            boardIs(game, teams[from], points[from]);
            Due.is("points(0, 0): not frozen", game.points(0, 0), 36);
        }
        game.set(3, 2);
        game.set(3, 100);
        boardIs(game, new int[] {2, 1, 0}, new int[] {60, 56, 36});
    }

    /** A FLAG that is handed in ahead of FROZEN and after it: on THE BOARD the later ones take no share. */
    private static void frozenShares() {
        ServiceGame game = Play.withTeams(3);
        game.round();
        int flag = game.flag(0, 0, 0);
        game.hand(1, 0, 0, flag);
        game.round();
        game.hand(2, 0, 0, flag);
        game.set(3, 1);
        boardIs(game, new int[] {1, 2, 0}, new int[] {60, 0, -4});
        points(game, 1, 0, 30, 0, 1);
        points(game, 0, 0, 0, 8, 0);
        game.set(3, 2);
        boardIs(game, new int[] {1, 2, 0}, new int[] {30, 30, -8});
    }
}
