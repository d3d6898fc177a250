/** Promises 1 a new object, 2 team. */
public final class TeamsTest {
    public static void main(String[] args) {
        newObject();
        teamsAreNumbered();
        noTeamAfterARound();
        objectsAreApart();
        Due.close();
    }

    private static void newObject() {
        ServiceGame game = new ServiceGame();
        for (int what = 0; what <= 5; what++) {
            Due.is("count(" + what + ") of a new object", game.count(what), 0);
        }
        Due.is("round() without a TEAM", game.round(), ServiceGame.STATE);
        Due.is("cell(0, 0, 0) without a TEAM", game.cell(0, 0, 0), ServiceGame.NONE);
        Due.is("points(0, 0) without a TEAM", game.points(0, 0), -1000000);
        Due.is("board(0, 0) without a TEAM", game.board(0, 0), -1000000);
        Due.is("gain(0) without a TEAM", game.gain(0), -1000000);
        Due.is("set(0, 60) of a new object", game.set(0, 60), 60);
        Due.is("set(1, 0) of a new object", game.set(1, 0), 0);
        Due.is("set(2, 3) of a new object", game.set(2, 3), 3);
        Due.is("set(3, 100) of a new object", game.set(3, 100), 100);
        for (int what = 4; what <= 6; what++) {
            Due.is("set(" + what + ", 1) of a new object", game.set(what, 1), 1);
        }
    }

    private static void teamsAreNumbered() {
        ServiceGame game = new ServiceGame();
        for (int t = 0; t < 5; t++) {
            Due.is("team()", game.team(), t);
            Due.is("count(0)", game.count(0), t + 1);
        }
        Due.is("team(), the sixth", game.team(), ServiceGame.FULL);
        Due.is("count(0)", game.count(0), 5);
        for (int s = 0; s < 3; s++) {
            for (int c = 0; c < 8; c++) {
                Due.is("cell(4, " + s + ", " + c + ")", game.cell(4, s, c), 0);
            }
            for (int what = 0; what <= 4; what++) {
                Due.is("about(4, " + s + ", " + what + ")", game.about(4, s, what), 0);
            }
        }
    }

    private static void noTeamAfterARound() {
        ServiceGame game = Play.withTeams(1);
        game.round();
        Due.is("team() after a ROUND", game.team(), ServiceGame.STATE);
        Due.is("count(0)", game.count(0), 1);
        ServiceGame all = Play.withTeams(5);
        all.round();
        Due.is("team(), the sixth, after a ROUND", all.team(), ServiceGame.STATE);
    }

    private static void objectsAreApart() {
        ServiceGame one = Play.running("p5;s0;h");
        ServiceGame other = Play.withTeams(1);
        one.set(0, 7);
        Due.is("cell of the one", one.cell(0, 0, 0), 5);
        Due.is("cell of the other", other.cell(0, 0, 0), 0);
        Due.is("FUEL of the other", other.set(0, 9), 60);
        Due.is("ROUNDS of the other", other.count(1), 0);
    }
}
