/** The edges of a LETTER's run: THE PILE, jumps, FUEL, BREAKS, CELLS, no PROGRAM; promises 6, 7 and 9. */
public final class LettersEdgesTest {
    private static final int NO_ANSWER = 10000, OUT_OF_FUEL = 10001, BROKE = 10002;

    public static void main(String[] args) {
        fromStepZero();
        emptyPile();
        eightOnThePile();
        tooFewOnThePile();
        theTopGoes();
        jumpsOnZeroAlone();
        jumpsToTheEdges();
        endsByOAndH();
        behindTheLastStep();
        sixtyOfFuelAtFirst();
        fuelOneToFiveHundred();
        fuelOfOne();
        outOfFuelKeepsCells();
        breakingGivesCellsBack();
        breakingWithTheLastOfFuel();
        noProgram();
        countsOfAbout();
        fourHundredLetters();
        Due.close();
    }

    private static void answer(String text, int a, int b, int want) {
        ServiceGame game = Play.running(text);
        Due.is("letter(" + a + ", " + b + ") to " + text, game.letter(1, 0, 0, a, b), want);
    }

    private static void fromStepZero() {
        Due.words("A LETTER runs a PROGRAM from STEP 0 on");
        ServiceGame game = Play.running("a;o;p7;o");
        Due.is("letter", game.letter(1, 0, 0, 3, 4), 3);
        Due.is("letter again", game.letter(1, 0, 0, 5, 4), 5);
        Due.is("count(5): two STEPS of each of five LETTERS", game.count(5), 10);
    }

    private static void emptyPile() {
        Due.words("with an empty PILE");
        for (String end : new String[] {"", ";h", ";o", ";g8"}) {
            ServiceGame game = Play.running("a;p9;=;j5;+;a;p8;b" + end);
            int ends = end.isEmpty() || end.equals(";h") ? NO_ANSWER : end.equals(";o") ? 6 : OUT_OF_FUEL;
            Due.is("letter that leaves three, by '" + end + "'", game.letter(0, 0, 0, 5, 6), ends);
            Due.is("letter that adds two", game.letter(0, 0, 0, 9, 6), BROKE);
        }
        ServiceGame game = Play.running("a;p9;=;j5;+;" + Play.steps("a", 9));
        Due.is("letter that breaks with eight", game.letter(0, 0, 0, 5, 6), BROKE);
        Due.is("letter after it", game.letter(0, 0, 0, 9, 6), BROKE);
        ServiceGame eight = Play.running(Play.steps("a", 8) + ";o");
        for (int i = 0; i < 4; i++) {
            Due.is("letter with eight, again", eight.letter(0, 0, 0, i, 0), i);
        }
    }

    private static void eightOnThePile() {
        Due.words("BREAKS: THE PILE would have more than 8");
        for (String push : new String[] {"p5", "a", "b", "l0"}) {
            for (int n = 1; n <= 8; n++) {
                answer(Play.steps(push, n), 5, 5, NO_ANSWER);
            }
            for (int n = 9; n <= 12; n++) {
                answer(Play.steps(push, n), 5, 5, BROKE);
                answer(Play.steps(push, n) + ";o", 5, 5, BROKE);
            }
            answer(Play.steps("p1", 8) + ";+;" + push, 5, 5, NO_ANSWER);
            answer(Play.steps("p1", 8) + ";+;" + push + ";" + push, 5, 5, BROKE);
        }
        answer(Play.steps("p1", 8) + ";+;+;+;+;+;+;+;o", 0, 0, 8);
        answer(Play.steps("p1", 8) + ";s0;s1;j11;b;b;b;h", 0, 0, NO_ANSWER);
        answer(Play.steps("p1", 8) + ";s0;s1;j11;b;b;b;b;h", 0, 0, BROKE);
        answer(Play.steps("p1", 8) + ";g9;a", 0, 0, BROKE);
    }

    private static void tooFewOnThePile() {
        Due.words("BREAKS: THE PILE .. has too few");
        for (String two : new String[] {"+", "-", "*", "=", "<"}) {
            answer(two, 1, 1, BROKE);
            answer("a;" + two, 1, 1, BROKE);
            answer("a;b;" + two, 1, 1, NO_ANSWER);
            answer("a;b;" + two + ";" + two, 1, 1, BROKE);
            answer("a;a;b;" + two + ";" + two, 1, 1, NO_ANSWER);
        }
        for (String one : new String[] {"s0", "j0", "j1", "o"}) {
            answer(one + ";h", 1, 1, BROKE);
        }
        answer("a;s0;h", 1, 1, NO_ANSWER);
        answer("a;j1;h", 1, 1, NO_ANSWER);
        answer("a;o", 1, 1, 1);
        answer("h", 1, 1, NO_ANSWER);
        answer("g1;h", 1, 1, NO_ANSWER);
    }

    private static void theTopGoes() {
        Due.words("s: the top goes into that CELL; j: the top goes");
        answer("a;s0;s1;h", 1, 1, BROKE);
        answer("a;j2;o", 1, 1, BROKE);
        answer("a;j2;o", 0, 1, BROKE);
        answer("b;a;s0;o", 1, 7, 7);
        answer("b;a;j3;o", 1, 7, 7);
        answer("b;a;j3;o", 0, 7, 7);
    }

    private static void jumpsOnZeroAlone() {
        Due.words("if it is 0 that STEP is next");
        for (int top : new int[] {1, 2, 5000, 9999}) {
            answer("a;j4;p1;o;p2;o", top, 0, 1);
        }
        answer("a;j4;p1;o;p2;o", 0, 0, 2);
        answer("a;b;+;j6;p1;o;p2;o", 9999, 1, 2);
    }

    private static void jumpsToTheEdges() {
        Due.words("j and a STEP; g and a STEP: that is next");
        answer("g23" + ";h".repeat(22) + ";o", 0, 0, BROKE);
        answer("b;g23" + ";h".repeat(21) + ";o", 0, 8, 8);
        answer("b;p0;j23" + ";h".repeat(20) + ";o", 0, 8, 8);
        answer("g0", 0, 0, OUT_OF_FUEL);
        answer("p0;j0", 0, 0, OUT_OF_FUEL);
        answer("g1;g0", 0, 0, OUT_OF_FUEL);
        answer("b;j5;a;s0;g0;h", 0, 0, NO_ANSWER);
    }

    private static void endsByOAndH() {
        Due.words("o: the top is the ANSWER; h: there is none");
        answer("h;p5;o", 1, 1, NO_ANSWER);
        answer("a;h;b;o", 1, 2, NO_ANSWER);
        answer("a;o;b;o", 1, 2, 1);
        answer("a;b;o;+;+", 1, 2, 2);
        answer("h;+", 1, 2, NO_ANSWER);
        answer("h;g0", 1, 2, NO_ANSWER);
        ServiceGame game = Play.running("a;s0;h;p9;s0");
        int used = game.count(5);
        game.letter(1, 0, 0, 4, 4);
        Due.is("cell 0: the STEPS behind h did not run", game.cell(0, 0, 0), 4);
        Due.is("count(5): h costs 1, too", game.count(5), used + 3);
    }

    private static void behindTheLastStep() {
        Due.words("by going behind the last STEP (no ANSWER)");
        answer("a", 1, 1, NO_ANSWER);
        answer("p0", 1, 1, NO_ANSWER);
        answer("a;j0", 1, 1, NO_ANSWER);
        answer(Play.steps("a;s0", 12), 1, 1, NO_ANSWER);
    }

    /** A PROGRAM that ends by o, with 7, after 6 and 7 times the LETTER's first number and these more STEPS. */
    private static String countDown(int more) {
        StringBuilder text = new StringBuilder("a;s0;l0;j9;l0;p1;-;s0;g2");
        for (int i = 0; i < more; i++) {
            text.append(";g").append(10 + i);
        }
        return text.append(";p7;o").toString();
    }

    private static void sixtyOfFuelAtFirst() {
        Due.words("each STEP costs 1 of FUEL (1 .. 500; 60 at first)");
        answer(countDown(5), 7, 0, 7);
        answer(countDown(6), 7, 0, OUT_OF_FUEL);
        ServiceGame game = Play.running(countDown(5));
        int used = game.count(5);
        game.letter(1, 0, 0, 7, 0);
        Due.is("count(5)", game.count(5), used + 60);
        game.letter(1, 0, 0, 8, 0);
        Due.is("count(5)", game.count(5), used + 120);
    }

    private static void fuelOneToFiveHundred() {
        Due.words("FUEL (1 .. 500)");
        ServiceGame game = Play.running(countDown(4));
        Due.is("set(0, 501)", game.set(0, 501), ServiceGame.BAD);
        Due.is("set(0, 0)", game.set(0, 0), ServiceGame.BAD);
        Due.is("set(0, 500)", game.set(0, 500), 60);
        Due.is("500 STEPS with 500", game.letter(1, 0, 0, 70, 0), 7);
        Due.is("507 STEPS with 500", game.letter(1, 0, 0, 71, 0), OUT_OF_FUEL);
        Due.is("set(0, 499)", game.set(0, 499), 500);
        Due.is("500 STEPS with 499", game.letter(1, 0, 0, 70, 0), OUT_OF_FUEL);
        Due.is("set(0, 10)", game.set(0, 10), 499);
        Due.is("10 STEPS with 10", game.letter(1, 0, 0, 0, 0), 7);
        Due.is("set(0, 9)", game.set(0, 9), 10);
        Due.is("10 STEPS with 9", game.letter(1, 0, 0, 0, 0), OUT_OF_FUEL);
    }

    private static void fuelOfOne() {
        Due.words("FUEL (1 .. 500)");
        String[] texts = {"h", "a;h", "a", "o", "g0", "g1;h", "+"};
        int[] want = {NO_ANSWER, OUT_OF_FUEL, NO_ANSWER, BROKE, OUT_OF_FUEL, OUT_OF_FUEL, BROKE};
        for (int i = 0; i < texts.length; i++) {
            ServiceGame game = Play.running(texts[i]);
            game.set(0, 1);
            int used = game.count(5);
            Due.is("letter with FUEL 1 to " + texts[i], game.letter(1, 0, 0, 1, 1), want[i]);
            Due.is("count(5)", game.count(5), used + 1);
        }
    }

    private static void outOfFuelKeepsCells() {
        Due.words("by FUEL (what it did to CELLS stays)");
        ServiceGame game = Play.withTeams(1);
        Play.patch(game, 0, 0, "a;s0;b;s7;g4");
        game.set(0, 2);
        game.round();
        Due.is("letter with FUEL for the first CELL", game.letter(0, 0, 0, 11, 22), OUT_OF_FUEL);
        Due.is("cell 0", game.cell(0, 0, 0), 11);
        Due.is("cell 7", game.cell(0, 0, 7), 0);
        game.set(0, 4);
        Due.is("letter with FUEL for both", game.letter(0, 0, 0, 33, 44), OUT_OF_FUEL);
        Due.is("cell 0", game.cell(0, 0, 0), 33);
        Due.is("cell 7", game.cell(0, 0, 7), 44);
        game.set(0, 1);
        Due.is("letter with FUEL for none", game.letter(0, 0, 0, 55, 66), OUT_OF_FUEL);
        Due.is("cell 0", game.cell(0, 0, 0), 33);
    }

    private static void breakingGivesCellsBack() {
        Due.words("in that case CELLS are as they were ahead of the letter");
        // by 0 it goes on to h, else it breaks by + on an empty PILE
        ServiceGame game = Play.running("b;s0;b;s1;b;s2;b;s3;b;s4;b;s5;b;s6;b;s7;a;j19;+;h");
        Due.is("letter that goes well", game.letter(1, 0, 0, 0, 77), NO_ANSWER);
        for (int round = 0; round < 2; round++) {
            Due.is("letter that breaks", game.letter(1, 0, 0, 1, 99), BROKE);
            for (int c = 0; c < 8; c++) {
                Due.is("cell " + c + " is that of the LETTER ahead", game.cell(0, 0, c), 77);
            }
        }
        Due.is("letter that goes well", game.letter(1, 0, 0, 0, 88), NO_ANSWER);
        for (int c = 0; c < 8; c++) {
            Due.is("cell " + c, game.cell(0, 0, c), 88);
        }
        ServiceGame other = Play.withTeams(2);
        Play.patch(other, 0, 0, "b;s0;h");
        Play.patch(other, 0, 1, "b;s0;+");
        other.round();
        other.letter(1, 0, 0, 0, 5);
        other.letter(1, 0, 1, 0, 6);
        Due.is("cell of the SERVICE beside", other.cell(0, 0, 0), 5);
        Due.is("cell of the SERVICE that broke", other.cell(0, 1, 0), 0);
    }

    private static void breakingWithTheLastOfFuel() {
        Due.words("It ends .. by FUEL, or it BREAKS");
        for (int fuel = 1; fuel <= 4; fuel++) {
            ServiceGame game = Play.running("b;s0;+;h");
            game.set(0, fuel);
            boolean breaks = fuel >= 3;
            Due.is("letter with FUEL " + fuel, game.letter(1, 0, 0, 0, 9), breaks ? BROKE : OUT_OF_FUEL);
            Due.is("cell 0 after FUEL " + fuel, game.cell(0, 0, 0), fuel == 2 ? 9 : 0);
            Due.is("about 3 after FUEL " + fuel, game.about(0, 0, 3), breaks ? 4 : 3);
            Due.is("about 4 after FUEL " + fuel, game.about(0, 0, 4), breaks ? 0 : 1);
        }
    }

    private static void noProgram() {
        Due.words("Without a PROGRAM there is no ANSWER");
        ServiceGame game = Play.withTeams(2);
        Due.is("letter ahead of a ROUND", game.letter(0, 1, 2, 1, 1), NO_ANSWER);
        Play.patch(game, 1, 2, "p5;o");
        Due.is("letter with a PATCH that waits", game.letter(0, 1, 2, 1, 1), NO_ANSWER);
        game.round();
        Due.is("letter with a PROGRAM", game.letter(0, 1, 2, 1, 1), 5);
        Due.is("letter beside it", game.letter(0, 1, 1, 1, 1), NO_ANSWER);
        Due.is("check beside it", game.check(1, 1, 0, 2), NO_ANSWER);
        Due.is("about(1, 1, 3)", game.about(1, 1, 3), 0);
        Due.is("about(1, 1, 4)", game.about(1, 1, 4), 0);
        Due.is("count(3): they are LETTERS, too", game.count(3), 4);
    }

    private static void countsOfAbout() {
        Due.words("0 STEPS of its PROGRAM (0: none), 1 whether a PATCH waits (1, 0)");
        ServiceGame game = Play.withTeams(2);
        aboutIs(game, 0, 0);
        Play.patch(game, 1, 1, Play.steps("h", 24));
        aboutIs(game, 0, 1);
        game.round();
        aboutIs(game, 24, 0);
        Play.patch(game, 1, 1, "h");
        aboutIs(game, 24, 1);
        game.unpatch(1, 1);
        aboutIs(game, 24, 0);
        Play.patch(game, 1, 1, "h");
        Play.patch(game, 1, 1, "x");
        aboutIs(game, 24, 1);
        game.round();
        aboutIs(game, 1, 0);
    }

    private static void aboutIs(ServiceGame game, int steps, int waits) {
        Due.is("about(1, 1, 0)", game.about(1, 1, 0), steps);
        Due.is("about(1, 1, 1)", game.about(1, 1, 1), waits);
        Due.is("about(1, 0, 1): beside it", game.about(1, 0, 1), 0);
        Due.is("about(0, 1, 1): of the TEAM ahead", game.about(0, 1, 1), 0);
    }

    private static void fourHundredLetters() {
        Due.words("FULL: 400 LETTERS were written since the latest ROUND");
        ServiceGame game = Play.withTeams(5);
        for (int period = 0; period < 2; period++) {
            for (int i = 0; i < 399; i++) {
                game.letter(i % 5, i / 5 % 5, i % 3, 0, 0);
            }
            Due.is("letter 10000: refused, it is none of the 400", game.letter(0, 0, 0, 10000, 0), ServiceGame.BAD);
            Due.is("letter, the 400th", game.letter(1, 4, 2, 0, 0), NO_ANSWER);
            Due.is("letter, the 401st", game.letter(1, 4, 2, 0, 0), ServiceGame.FULL);
            Due.is("letter, the 401st, of another TEAM", game.letter(0, 1, 0, 0, 0), ServiceGame.FULL);
            Due.is("count(3)", game.count(3), 400 * (period + 1));
            Due.is("round(): the checker writes all the same", game.round(), 0);
        }
        Due.is("letter after the ROUND", game.letter(1, 4, 2, 0, 0), NO_ANSWER);
    }
}
