import java.nio.charset.StandardCharsets;

/** What several tests do with a game. */
final class Play {
    /** Answers all three LETTERS of the checker as they must be, with KEY 1. */
    static final String GOOD = "a;p1;=;j8;b;p1;+;o;a;p2;=;j16;b;s0;p0;o;l0;o";

    private Play() {
    }

    static ServiceGame withTeams(int teams) {
        ServiceGame game = new ServiceGame();
        for (int t = 0; t < teams; t++) {
            game.team();
        }
        return game;
    }

    /** Feeds a text in pieces of at most 8 bytes: the answer to the last piece. */
    static int feed(ServiceGame game, String text) {
        byte[] bytes = text.getBytes(StandardCharsets.ISO_8859_1);
        int answer = 0;
        for (int from = 0; from < bytes.length; from += 8) {
            int n = Math.min(8, bytes.length - from);
            long w = 0;
            for (int i = 0; i < n; i++) {
                w = w << 8 | bytes[from + i] & 255;
            }
            answer = game.feed(w, n);
        }
        return answer;
    }

    static int patch(ServiceGame game, int team, int service, String text) {
        feed(game, text);
        return game.patch(team, service);
    }

    /** One TEAM more than it needs to be written to, with a PROGRAM in SERVICE 0 of TEAM 0, after ROUND 0. */
    static ServiceGame running(String text) {
        ServiceGame game = withTeams(2);
        patch(game, 0, 0, text);
        game.round();
        return game;
    }

    static void rounds(ServiceGame game, int n) {
        for (int i = 0; i < n; i++) {
            game.round();
        }
    }

    /** A STEP n times, with ; between. */
    static String steps(String step, int n) {
        StringBuilder text = new StringBuilder();
        for (int i = 0; i < n; i++) {
            text.append(i == 0 ? "" : ";").append(step);
        }
        return text.toString();
    }

    /** What a setting is: it is set to something and back again. After a ROUND SEED and LIFE can't be asked for. */
    static int setting(ServiceGame game, int what) {
        int was = game.set(what, 1);
        if (was >= 0) {
            game.set(what, was);
        }
        return was;
    }

    /** All that can be asked for, with nothing changed in the end. */
    static String state(ServiceGame game) {
        StringBuilder all = new StringBuilder("count");
        for (int what = 0; what <= 5; what++) {
            all.append(' ').append(game.count(what));
        }
        all.append("\n  settings");
        for (int what = 0; what <= 6; what++) {
            all.append(' ').append(setting(game, what));
        }
        int teams = game.count(0);
        for (int t = 0; t < teams; t++) {
            for (int s = 0; s < 3; s++) {
                all.append("\n  service ").append(t).append('.').append(s).append(':');
                appendService(all, game, t, s);
            }
        }
        all.append("\n  points");
        for (int t = 0; t < teams; t++) {
            for (int what = 0; what <= 4; what++) {
                all.append(' ').append(game.points(t, what));
            }
            all.append(" board ").append(game.board(t, 0)).append(' ').append(game.board(t, 1)).append(';');
        }
        all.append("\n  gain");
        for (int set = 0; set < 1 << teams; set++) {
            all.append(' ').append(game.gain(set));
        }
        return all.toString();
    }

    private static void appendService(StringBuilder all, ServiceGame game, int t, int s) {
        for (int c = 0; c < 8; c++) {
            all.append(' ').append(game.cell(t, s, c));
        }
        all.append(" about");
        for (int what = 0; what <= 4; what++) {
            all.append(' ').append(game.about(t, s, what));
        }
        all.append(" up");
        for (int r = 0; r < game.count(1); r++) {
            all.append(' ').append(game.up(t, s, r)).append('/').append(game.flag(t, s, r));
        }
        all.append(" check");
        for (int i = 0; i < 12; i++) {
            all.append(' ').append(game.check(t, s, i / 4, i % 4));
        }
        all.append(" alike ").append(game.alike(t, s));
    }

    /** Asks that a refused call left all as it was. */
    static void unchanged(String call, ServiceGame game, String ahead) {
        Due.same("the state after " + call, state(game), ahead);
    }
}
