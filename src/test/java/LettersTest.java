/** Promises 6 cell, 7 about, 9 letter. */
public final class LettersTest {
    public static void main(String[] args) {
        answers();
        jumps();
        breaks();
        fuel();
        cells();
        about();
        refusals();
        full();
        Due.close();
    }

    private static void answer(String text, int a, int b, int want) {
        ServiceGame game = Play.running(text);
        Due.is("letter(" + a + ", " + b + ") to " + text, game.letter(1, 0, 0, a, b), want);
    }

    private static void answers() {
        answer("p0;o", 1, 2, 0);
        answer("p9999;o", 1, 2, 9999);
        answer("a;o", 5, 6, 5);
        answer("b;o", 5, 6, 6);
        answer("a;b;o", 5, 6, 6);
        answer("a;b;+;o", 5, 6, 11);
        answer("a;b;+;o", 9999, 1, 0);
        answer("a;b;+;o", 9999, 9999, 9998);
        answer("a;b;-;o", 6, 2, 4);
        answer("a;b;-;o", 2, 6, 9996);
        answer("a;b;-;o", 0, 9999, 1);
        answer("a;b;-;o", 7, 7, 0);
        answer("a;b;*;o", 7, 8, 56);
        answer("a;b;*;o", 9999, 9999, 1);
        answer("a;b;*;o", 1234, 5678, 6652);
        answer("a;b;=;o", 7, 7, 1);
        answer("a;b;=;o", 7, 8, 0);
        answer("a;b;<;o", 7, 8, 1);
        answer("a;b;<;o", 8, 7, 0);
        answer("a;b;<;o", 8, 8, 0);
        answer("a;p100;b;+;-;o", 1000, 1, 899);
        answer("h", 1, 2, 10000);
        answer("a;h;o", 1, 2, 10000);
        answer("a", 1, 2, 10000);
        answer("a;b;+", 1, 2, 10000);
    }

    private static void jumps() {
        answer("a;j4;p1;o;p2;o", 0, 0, 2);
        answer("a;j4;p1;o;p2;o", 1, 0, 1);
        answer("a;j4;p1;o;p2;o", 9999, 0, 1);
        answer("g3;p1;o;p2;o", 0, 0, 2);
        answer("p8;a;j3;o", 1, 0, 8);
        answer("p8;p9;a;j4;o", 0, 0, 9);
        // counts the second number down to 0 and the first one up
        answer("a;s1;b;s2;l2;j14;l2;p1;-;s2;l1;p1;+;g17;l1;o;h;s1;g4", 100, 3, 103);
    }

    private static void breaks() {
        for (String text : new String[] {"+;o", "p1;+", "p1;-", "p1;*", "p1;=", "p1;<", "*", "=", "<", "-", "o", "s0", "j0"}) {
            answer(text, 1, 2, 10002);
        }
        answer(Play.steps("a", 8) + ";o", 5, 6, 5);
        answer(Play.steps("p1", 8) + ";+;p7;o", 5, 6, 7);
        for (String push : new String[] {"a", "b", "p1", "l0"}) {
            answer(Play.steps("a", 8) + ";" + push + ";o", 5, 6, 10002);
        }
        ServiceGame game = Play.running("a;s0;b;s1;a;j8;+;h;p1;o");
        Due.is("letter that goes well", game.letter(1, 0, 0, 0, 9), 1);
        Due.is("cell 1", game.cell(0, 0, 1), 9);
        Due.is("letter that breaks", game.letter(1, 0, 0, 7, 8), 10002);
        Due.is("cell 0 is as it was", game.cell(0, 0, 0), 0);
        Due.is("cell 1 is as it was", game.cell(0, 0, 1), 9);
    }

    private static void fuel() {
        ServiceGame game = Play.running("l0;p1;+;s0;g0");
        int ahead = game.cell(0, 0, 0);
        Due.is("cell after three LETTERS", ahead, 36);
        int used = game.count(5);
        Due.is("letter without an end", game.letter(1, 0, 0, 0, 0), 10001);
        Due.is("cell after 60 steps", game.cell(0, 0, 0), ahead + 12);
        Due.is("count(5) after 60 steps", game.count(5), used + 60);
        game.set(0, 500);
        game.letter(1, 0, 0, 0, 0);
        Due.is("cell after 500 steps", game.cell(0, 0, 0), ahead + 112);
        game.set(0, 1);
        Due.is("letter with FUEL 1", game.letter(1, 0, 0, 0, 0), 10001);
        game.set(0, 4);
        game.letter(1, 0, 0, 0, 0);
        Due.is("cell after 4 steps", game.cell(0, 0, 0), ahead + 113);
        game.set(0, 3);
        game.letter(1, 0, 0, 0, 0);
        Due.is("cell after 3 steps", game.cell(0, 0, 0), ahead + 113);
        fuelThatJustDoes();
    }

    private static void fuelThatJustDoes() {
        ServiceGame game = Play.running("p1;p2;o");
        game.set(0, 3);
        Due.is("o with the last of FUEL", game.letter(1, 0, 0, 0, 0), 2);
        game.set(0, 2);
        Due.is("o without FUEL", game.letter(1, 0, 0, 0, 0), 10001);
        ServiceGame behind = Play.running("p1;p2");
        behind.set(0, 2);
        Due.is("behind the last STEP with the last of FUEL", behind.letter(1, 0, 0, 0, 0), 10000);
        behind.set(0, 1);
        Due.is("no FUEL for the last STEP", behind.letter(1, 0, 0, 0, 0), 10001);
        ServiceGame broken = Play.running("p1;+");
        broken.set(0, 1);
        Due.is("no FUEL for the STEP that breaks", broken.letter(1, 0, 0, 0, 0), 10001);
        int used = broken.count(5);
        broken.set(0, 2);
        Due.is("FUEL for the STEP that breaks", broken.letter(1, 0, 0, 0, 0), 10002);
        Due.is("count(5): the STEP that breaks costs", broken.count(5), used + 2);
        ServiceGame none = Play.withTeams(1);
        Due.is("letter without a PROGRAM", none.letter(0, 0, 0, 0, 0), 10000);
        Due.is("count(5) without a PROGRAM", none.count(5), 0);
    }

    private static void cells() {
        ServiceGame game = Play.running("a;s3;b;s7;l3;l7;+;s0;l0;o");
        Due.is("letter", game.letter(1, 0, 0, 30, 12), 42);
        int[] want = {42, 0, 0, 30, 0, 0, 0, 12};
        for (int c = 0; c < 8; c++) {
            Due.is("cell(0, 0, " + c + ")", game.cell(0, 0, c), want[c]);
            Due.is("cell(0, 1, " + c + ")", game.cell(0, 1, c), 0);
            Due.is("cell(1, 0, " + c + ")", game.cell(1, 0, c), 0);
        }
        Due.is("cell(0, 0, 8)", game.cell(0, 0, 8), ServiceGame.NONE);
        Due.is("cell(0, 0, -1)", game.cell(0, 0, -1), ServiceGame.NONE);
        Due.is("cell(0, 3, 0)", game.cell(0, 3, 0), ServiceGame.NONE);
        Due.is("cell(0, -1, 0)", game.cell(0, -1, 0), ServiceGame.NONE);
        Due.is("cell(2, 0, 0)", game.cell(2, 0, 0), ServiceGame.NONE);
        Due.is("cell(-1, 0, 0)", game.cell(-1, 0, 0), ServiceGame.NONE);
        Play.patch(game, 0, 0, "l3;o");
        game.letter(1, 0, 0, 77, 0);
        game.round();
        Due.is("cell(0, 0, 3): CELLS stay through a PATCH", game.letter(1, 0, 0, 0, 0), game.cell(0, 0, 3));
        Due.is("letter to the own SERVICE", game.letter(0, 0, 0, 0, 0), game.cell(0, 0, 3));
    }

    private static void about() {
        ServiceGame game = Play.running("a;p9;<;j5;h;a;p10;=;j0;+");
        Due.is("letter with an end", game.letter(1, 0, 0, 1, 0), 10000);
        Due.is("about 3 ahead", game.about(0, 0, 3), 0);
        Due.is("about 4 ahead", game.about(0, 0, 4), 0);
        Due.is("letter that breaks", game.letter(1, 0, 0, 10, 0), 10002);
        Due.is("letter that breaks", game.letter(1, 0, 0, 10, 0), 10002);
        Due.is("letter without an end", game.letter(1, 0, 0, 9, 0), 10001);
        Due.is("about 0", game.about(0, 0, 0), 10);
        Due.is("about 1", game.about(0, 0, 1), 0);
        Due.is("about 2", game.about(0, 0, 2), 0);
        Due.is("about 3", game.about(0, 0, 3), 2);
        Due.is("about 4", game.about(0, 0, 4), 1);
        Due.is("about 3 of another SERVICE", game.about(0, 1, 3), 0);
        Due.is("about 4 of another TEAM", game.about(1, 0, 4), 0);
        Due.is("about 5", game.about(0, 0, 5), ServiceGame.NONE);
        Due.is("about -1", game.about(0, 0, -1), ServiceGame.NONE);
        Due.is("about of SERVICE 3", game.about(0, 3, 0), ServiceGame.NONE);
        Due.is("about of SERVICE -1", game.about(0, -1, 0), ServiceGame.NONE);
        Due.is("about of TEAM 2", game.about(2, 0, 0), ServiceGame.NONE);
        Due.is("about of TEAM -1", game.about(-1, 0, 0), ServiceGame.NONE);
        ServiceGame broken = Play.running("+");
        Due.is("about 3: the checker's LETTERS break, too", broken.about(0, 0, 3), 3);
        ServiceGame endless = Play.running("g0");
        Due.is("about 4: the checker's LETTERS use FUEL, too", endless.about(0, 0, 4), 3);
    }

    private static void refused(ServiceGame game, int[] call, int want) {
        String text = "letter" + java.util.Arrays.toString(call);
        String ahead = Play.state(game);
        Due.is(text, game.letter(call[0], call[1], call[2], call[3], call[4]), want);
        Play.unchanged(text, game, ahead);
    }

    private static void refusals() {
        ServiceGame game = Play.running("l0;p1;+;s0;l0;o");
        refused(game, new int[] {2, 0, 0, 0, 0}, ServiceGame.NONE);
        refused(game, new int[] {-1, 0, 0, 0, 0}, ServiceGame.NONE);
        refused(game, new int[] {0, 2, 0, 0, 0}, ServiceGame.NONE);
        refused(game, new int[] {0, -1, 0, 0, 0}, ServiceGame.NONE);
        refused(game, new int[] {0, 0, 3, 0, 0}, ServiceGame.NONE);
        refused(game, new int[] {0, 0, -1, 0, 0}, ServiceGame.NONE);
        refused(game, new int[] {0, 0, 3, -1, 0}, ServiceGame.NONE);
        refused(game, new int[] {2, 0, 0, 0, 10000}, ServiceGame.NONE);
        refused(game, new int[] {0, 0, 0, -1, 0}, ServiceGame.BAD);
        refused(game, new int[] {0, 0, 0, 10000, 0}, ServiceGame.BAD);
        refused(game, new int[] {0, 0, 0, 0, -1}, ServiceGame.BAD);
        refused(game, new int[] {0, 0, 0, 0, 10000}, ServiceGame.BAD);
        refused(game, new int[] {0, 0, 0, 0, Integer.MIN_VALUE}, ServiceGame.BAD);
    }

    private static void full() {
        ServiceGame game = Play.running("l0;p1;+;s0;l0;o");
        for (int i = 0; i < 400; i++) {
            int team = i % 2;
            Due.is("letter " + i, game.letter(0, team, i % 3, 0, 0), i % 6 == 0 ? 4 + i / 6 : 10000);
        }
        refused(game, new int[] {1, 0, 0, 0, 0}, ServiceGame.FULL);
        refused(game, new int[] {1, 1, 2, 0, 0}, ServiceGame.FULL);
        refused(game, new int[] {1, 0, 0, 0, 10000}, ServiceGame.BAD);
        refused(game, new int[] {1, 0, 3, 0, 0}, ServiceGame.NONE);
        game.round();
        Due.is("letter after a ROUND", game.letter(0, 1, 1, 0, 0), 10000);
        Due.is("count(3)", game.count(3), 401);
    }
}
