/** Promises 3 feed, 4 patch, 5 unpatch. */
public final class TapeTest {
    public static void main(String[] args) {
        feeding();
        feedingBytesInOrder();
        goodTexts();
        faults();
        tooManySteps();
        lostSteps();
        fullTape();
        patching();
        unpatching();
        Due.close();
    }

    private static void feeding() {
        ServiceGame game = Play.withTeams(1);
        Due.is("feed(.., 0)", game.feed(97, 0), ServiceGame.BAD);
        Due.is("feed(.., 9)", game.feed(97, 9), ServiceGame.BAD);
        Due.is("feed(.., -1)", game.feed(97, -1), ServiceGame.BAD);
        Due.is("feed(.., least)", game.feed(97, Integer.MIN_VALUE), ServiceGame.BAD);
        Due.is("feed(.., most)", game.feed(97, Integer.MAX_VALUE), ServiceGame.BAD);
        Due.is("count(4)", game.count(4), 0);
        for (int i = 1; i <= 14; i++) {
            Due.is("feed(.., 8)", game.feed(-1, 8), 8 * i);
        }
        Due.is("feed(.., 7)", game.feed(-1, 7), 119);
        Due.is("feed(.., 2) over 120", game.feed(-1, 2), ServiceGame.FULL);
        Due.is("count(4)", game.count(4), 119);
        Due.is("feed(.., 1) to 120", game.feed(-1, 1), 120);
        Due.is("feed(.., 1) over 120", game.feed(-1, 1), ServiceGame.FULL);
        Due.is("feed(.., 9) over 120", game.feed(-1, 9), ServiceGame.BAD);
        Due.is("count(4)", game.count(4), 120);
    }

    private static void feedingBytesInOrder() {
        ServiceGame game = Play.withTeams(1);
        long highBytesToLeaveOut = 0x7A7A7A7A7A000000L;
        game.feed(highBytesToLeaveOut | 'p' << 16 | '4' << 8 | '2', 3);
        game.feed(';', 1);
        game.feed('o', 1);
        Due.is("patch(0, 0) of p42;o", game.patch(0, 0), 2);
        game.round();
        Due.is("letter to p42;o", game.letter(0, 0, 0, 0, 0), 42);
    }

    private static void text(String text, int want) {
        ServiceGame game = Play.withTeams(1);
        Due.is("feed of " + text, Play.feed(game, text), text.length());
        Due.is("patch of " + text, game.patch(0, 0), want);
        Due.is("about 1 after " + text, game.about(0, 0, 1), want > 0 ? 1 : 0);
        Due.is("count(4) after " + text, game.count(4), 0);
    }

    private static void fault(String text, int place) {
        text(text, -10 - place);
    }

    private static void goodTexts() {
        text("h", 1);
        text("a;b;o;h;+;-;*;=;<", 9);
        text("p0;p9;p10;p99;p100;p999;p1000;p9999", 8);
        text("l0;l7;s0;s7", 4);
        text("j0;g1;h", 3);
        text("j9;g8;h;h;h;h;h;h;h;h", 10);
        text("j10;g10;h;h;h;h;h;h;h;h;h", 11);
        text(Play.GOOD, 18);
    }

    private static void faults() {
        Due.is("patch of an empty tape", Play.withTeams(1).patch(0, 0), -10);
        fault(";", 0);
        fault(";a", 0);
        fault("a;", 2);
        fault("a;;b", 2);
        fault("ab", 1);
        fault("a b", 1);
        fault(" a", 0);
        fault("x", 0);
        fault("A", 0);
        fault("0", 0);
        fault(">", 0);
        fault("a\u0000", 1);
        fault("\u00e1", 0);
        fault("a;\u00ff", 2);
        fault("p", 1);
        fault("p;o", 1);
        fault("px", 1);
        fault("p-1", 1);
        fault("p00", 2);
        fault("p01;o", 2);
        fault("p12345", 5);
        fault("p1234:", 5);
        fault("p12/", 3);
        fault("p:", 1);
        fault("p/", 1);
        fault("l", 1);
        fault("s", 1);
        fault("l8", 1);
        fault("s8", 1);
        fault("l/", 1);
        fault("s;a", 1);
        fault("l00", 2);
        fault("s12", 2);
        fault("j", 1);
        fault("g", 1);
        fault("g;h", 1);
        fault("j00", 2);
        fault("j01", 2);
        fault("g100", 3);
        fault("j234", 3);
        fault("h1", 1);
        fault("a;p1;o1", 6);
        fault("a;j9;o;x", 7);
        fault("a;j9;o;", 7);
    }

    private static void tooManySteps() {
        text(Play.steps("a", 24), 24);
        fault(Play.steps("a", 24) + ";", 47);
        fault(Play.steps("a", 25), 47);
        fault(Play.steps("p1", 25), 71);
        fault(Play.steps("a", 24) + "b", 47);
        text("g23;" + Play.steps("a", 23), 24);
    }

    private static void lostSteps() {
        fault("j1", 200);
        fault("g1", 200);
        fault("a;j9;o", 201);
        fault("a;j3;o", 201);
        text("a;j2;o", 3);
        fault("a;g2;g5;j9;o", 202);
        fault("a;g99;j0", 201);
        fault("g24;" + Play.steps("a", 23), 200);
        fault(Play.steps("a", 23) + ";j24", 223);
    }

    private static void fullTape() {
        String text = Play.steps("p9999", 20);
        Due.is("size of the text", text.length(), 119);
        text(text, 20);
        fault(text + ";", 120);
        fault(text + "x", 119);
    }

    private static void patching() {
        ServiceGame game = Play.withTeams(2);
        Play.feed(game, "p7;o");
        for (int[] at : new int[][] {{-1, 0}, {2, 0}, {0, -1}, {0, 3}, {5, 0}, {Integer.MAX_VALUE, 0}, {0, Integer.MIN_VALUE}}) {
            Due.is("patch(" + at[0] + ", " + at[1] + ")", game.patch(at[0], at[1]), ServiceGame.NONE);
            Due.is("count(4): the tape stays", game.count(4), 4);
        }
        Due.is("patch(1, 2)", game.patch(1, 2), 2);
        Due.is("about(1, 2, 1)", game.about(1, 2, 1), 1);
        Due.is("about(1, 2, 0) ahead of a ROUND", game.about(1, 2, 0), 0);
        Due.is("about(0, 2, 1)", game.about(0, 2, 1), 0);
        Due.is("letter ahead of a ROUND", game.letter(0, 1, 2, 0, 0), 10000);
        Due.is("patch with a FAULT", Play.patch(game, 1, 2, "p8;x"), -13);
        game.round();
        Due.is("letter: the PATCH ahead stayed", game.letter(0, 1, 2, 0, 0), 7);
        Due.is("about(1, 2, 1) after the ROUND", game.about(1, 2, 1), 0);
        Due.is("patch", Play.patch(game, 1, 2, "p1;p8;o"), 3);
        Due.is("patch in its place", Play.patch(game, 1, 2, "p1;p1;p9;o"), 4);
        Due.is("letter: the PATCH waits", game.letter(0, 1, 2, 0, 0), 7);
        Due.is("about(1, 2, 0): the PATCH waits", game.about(1, 2, 0), 2);
        game.round();
        Due.is("letter: the PATCH told last", game.letter(0, 1, 2, 0, 0), 9);
        Due.is("about(1, 2, 0)", game.about(1, 2, 0), 4);
        game.round();
        Due.is("about(1, 2, 0): the PROGRAM stays", game.about(1, 2, 0), 4);
    }

    private static void unpatching() {
        ServiceGame game = Play.withTeams(1);
        Due.is("unpatch(0, 3)", game.unpatch(0, 3), ServiceGame.NONE);
        Due.is("unpatch(0, -1)", game.unpatch(0, -1), ServiceGame.NONE);
        Due.is("unpatch(1, 0)", game.unpatch(1, 0), ServiceGame.NONE);
        Due.is("unpatch(-1, 0)", game.unpatch(-1, 0), ServiceGame.NONE);
        Due.is("unpatch(0, 0): none waits", game.unpatch(0, 0), ServiceGame.STATE);
        Play.patch(game, 0, 0, "p7;o");
        Play.patch(game, 0, 0, "p1;p8;o");
        Due.is("unpatch(0, 1): none waits", game.unpatch(0, 1), ServiceGame.STATE);
        Due.is("unpatch(0, 0)", game.unpatch(0, 0), 3);
        Due.is("unpatch(0, 0) again", game.unpatch(0, 0), ServiceGame.STATE);
        Due.is("about(0, 0, 1)", game.about(0, 0, 1), 0);
        game.round();
        Due.is("about(0, 0, 0)", game.about(0, 0, 0), 0);
        Play.patch(game, 0, 0, "p7;o");
        game.round();
        Due.is("unpatch after the ROUND", game.unpatch(0, 0), ServiceGame.STATE);
        Play.patch(game, 0, 0, "h");
        Due.is("unpatch of a PATCH over a PROGRAM", game.unpatch(0, 0), 1);
        game.round();
        Due.is("letter: the PROGRAM stayed", game.letter(0, 0, 0, 0, 0), 7);
    }
}
