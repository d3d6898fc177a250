/** Promise 8 set. */
public final class SettingsTest {
    private static final int[] FIRST = {60, 0, 3, 100, 1, 1, 1};
    private static final int[] LEAST = {1, 0, 1, 0, 0, 0, 0};
    private static final int[] MOST = {500, 999, 9, 100, 9999, 9999, 9999};

    public static void main(String[] args) {
        for (int what = 0; what < 7; what++) {
            bounds(what);
        }
        noSuch();
        afterARound();
        keysAreOfServices();
        Due.close();
    }

    private static void bounds(int what) {
        ServiceGame game = Play.withTeams(1);
        String call = "set(" + what + ", ..)";
        Due.is(call + " too small", game.set(what, LEAST[what] - 1), ServiceGame.BAD);
        Due.is(call + " too great", game.set(what, MOST[what] + 1), ServiceGame.BAD);
        Due.is(call + " least int", game.set(what, Integer.MIN_VALUE), ServiceGame.BAD);
        Due.is(call + " greatest int", game.set(what, Integer.MAX_VALUE), ServiceGame.BAD);
        Due.is(call + " to the least", game.set(what, LEAST[what]), FIRST[what]);
        Due.is(call + " to the most", game.set(what, MOST[what]), LEAST[what]);
        Due.is(call + " again", game.set(what, MOST[what]), MOST[what]);
        for (int other = 0; other < 7; other++) {
            if (other != what) {
                Due.is("set(" + other + ", ..): untouched", game.set(other, LEAST[other]), FIRST[other]);
            }
        }
    }

    private static void noSuch() {
        ServiceGame game = Play.withTeams(1);
        for (int what : new int[] {-1, 7, Integer.MAX_VALUE, Integer.MIN_VALUE}) {
            Due.is("set(" + what + ", 1)", game.set(what, 1), ServiceGame.NONE);
            Due.is("set(" + what + ", -1)", game.set(what, -1), ServiceGame.NONE);
        }
    }

    private static void afterARound() {
        ServiceGame game = Play.withTeams(1);
        game.set(1, 5);
        game.set(2, 4);
        game.round();
        int flag = game.flag(0, 0, 0);
        Due.is("set(1, 6) after a ROUND", game.set(1, 6), ServiceGame.STATE);
        Due.is("set(1, 5) after a ROUND", game.set(1, 5), ServiceGame.STATE);
        Due.is("set(2, 5) after a ROUND", game.set(2, 5), ServiceGame.STATE);
        Due.is("set(1, 1000) after a ROUND", game.set(1, 1000), ServiceGame.BAD);
        Due.is("set(2, 0) after a ROUND", game.set(2, 0), ServiceGame.BAD);
        Due.is("set(0, 61) after a ROUND", game.set(0, 61), 60);
        Due.is("set(3, 0) after a ROUND", game.set(3, 0), 100);
        for (int what = 4; what <= 6; what++) {
            Due.is("set(" + what + ", 0) after a ROUND", game.set(what, 0), 1);
        }
        Due.is("flag: SEED stayed", game.flag(0, 0, 0), flag);
    }

    private static void keysAreOfServices() {
        ServiceGame game = Play.withTeams(2);
        int[] keys = {0, 9999, 42};
        for (int s = 0; s < 3; s++) {
            game.set(4 + s, keys[s]);
            for (int t = 0; t < 2; t++) {
                String echo = Play.GOOD.replace("b;p1;+", "b;p" + keys[s] + ";+");
                Play.patch(game, t, s, echo);
            }
        }
        Due.is("round() with all KEYS kept", game.round(), 6);
        game.set(5, 9998);
        Due.is("round() with another KEY of SERVICE 1", game.round(), 4);
        Due.is("up(0, 1, 1)", game.up(0, 1, 1), 0);
        Due.is("up(1, 1, 1)", game.up(1, 1, 1), 0);
        Due.is("up(1, 1, 0): what was stays", game.up(1, 1, 0), 1);
    }
}
