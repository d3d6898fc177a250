/** The edges that the document's Terms name: TEAMS, numbers, THE TAPE, STEPS, FAULTS, LETTERS, THE PILE, FUEL. */
public final class TermsEdgesTest {
    private static final String STARTS = "pabls+-*=<jgoh", DIGITS = "0123456789";

    public static void main(String[] args) {
        teamsFiveAtMost();
        noTeamAfterARound();
        servicesZeroToTwo();
        eightCells();
        numbersOfLetters();
        sums();
        differences();
        products();
        likeAndLess();
        tapeOf120();
        bytesHighestFirst();
        bytesOfAllKinds();
        oneStepToTwentyFour();
        numbersOfP();
        stepsOfJAndG();
        firstByteOfAll();
        tapeEndsTooEarly();
        firstLostStep();
        Due.close();
    }

    private static void teamsFiveAtMost() {
        Due.words("TEAMS are numbered from 0 on, 5 at most");
        ServiceGame game = new ServiceGame();
        for (int t = 0; t < 5; t++) {
            Due.is("about(" + t + ", 0, 0) ahead of team()", game.about(t, 0, 0), ServiceGame.NONE);
            Due.is("team()", game.team(), t);
            Due.is("about(" + t + ", 0, 0)", game.about(t, 0, 0), 0);
        }
        Due.is("team(), the sixth", game.team(), ServiceGame.FULL);
        Due.is("about(5, 0, 0)", game.about(5, 0, 0), ServiceGame.NONE);
        Due.is("about(-1, 0, 0)", game.about(-1, 0, 0), ServiceGame.NONE);
    }

    private static void noTeamAfterARound() {
        Due.words("A TEAM more: its number. STATE: a ROUND was; FULL");
        for (int teams = 1; teams <= 5; teams++) {
            ServiceGame game = Play.withTeams(teams);
            game.round();
            Due.is("team() after ROUND 0 with " + teams, game.team(), ServiceGame.STATE);
            Due.is("count(0)", game.count(0), teams);
            game.round();
            Due.is("team() after ROUND 1 with " + teams, game.team(), ServiceGame.STATE);
        }
        ServiceGame game = new ServiceGame();
        Due.is("round() without a TEAM is no ROUND", game.round(), ServiceGame.STATE);
        Due.is("team() then", game.team(), 0);
    }

    private static void servicesZeroToTwo() {
        Due.words("each keeps SERVICES 0 .. 2: a PROGRAM each");
        ServiceGame game = Play.withTeams(5);
        for (int i = 0; i < 15; i++) {
            Play.patch(game, i / 3, i % 3, "p" + (100 + i) + ";o");
        }
        Due.is("patch(0, 3)", Play.patch(game, 0, 3, "h"), ServiceGame.NONE);
        Due.is("patch(1, -1)", game.patch(1, -1), ServiceGame.NONE);
        game.round();
        for (int i = 0; i < 15; i++) {
            Due.is("letter to " + i / 3 + "." + i % 3, game.letter(0, i / 3, i % 3, 0, 0), 100 + i);
        }
    }

    private static void eightCells() {
        Due.words("8 CELLS (0 at first)");
        for (int c = 0; c < 8; c++) {
            ServiceGame game = Play.withTeams(2);
            Play.patch(game, 1, 2, "a;p9;=;j7;b;s" + c + ";h;l" + c + ";o");
            game.round();
            Due.is("l" + c + " at first", game.letter(0, 1, 2, 1, 0), 0);
            game.letter(0, 1, 2, 9, 9999 - c);
            Due.is("l" + c + " after s" + c, game.letter(0, 1, 2, 1, 0), 9999 - c);
            for (int i = 0; i < 48; i++) {
                boolean written = i == 40 + c;
                Due.is("cell " + i, game.cell(i / 24, i / 8 % 3, i % 8), written ? 9999 - c : 0);
            }
        }
        ServiceGame game = Play.withTeams(1);
        Due.is("cell(0, 0, 7)", game.cell(0, 0, 7), 0);
        Due.is("cell(0, 0, 8)", game.cell(0, 0, 8), ServiceGame.NONE);
        Due.is("cell(0, 0, -1)", game.cell(0, 0, -1), ServiceGame.NONE);
    }

    private static void numbersOfLetters() {
        Due.words("All numbers are 0 .. 9999");
        ServiceGame game = Play.running("a;b;-;o");
        Due.is("letter(.., 0, 0)", game.letter(1, 0, 0, 0, 0), 0);
        Due.is("letter(.., 9999, 0)", game.letter(1, 0, 0, 9999, 0), 9999);
        Due.is("letter(.., 9999, 9999)", game.letter(1, 0, 0, 9999, 9999), 0);
        for (int wrong : new int[] {-1, 10000, 65536, Integer.MAX_VALUE, Integer.MIN_VALUE}) {
            Due.is("letter(.., " + wrong + ", 0)", game.letter(1, 0, 0, wrong, 0), ServiceGame.BAD);
            Due.is("letter(.., 0, " + wrong + ")", game.letter(1, 0, 0, 0, wrong), ServiceGame.BAD);
        }
    }

    /** What a PROGRAM a;b;sign;o answers: lower, upper, the ANSWER by turns. */
    private static void join(char sign, int... rows) {
        ServiceGame game = Play.running("a;b;" + sign + ";o");
        for (int i = 0; i < rows.length; i += 3) {
            String call = rows[i] + " " + sign + " " + rows[i + 1];
            Due.is(call, game.letter(1, 0, 0, rows[i], rows[i + 1]), rows[i + 2]);
        }
    }

    private static void sums() {
        Due.words("sums, differences, products are taken modulo 10000");
        join('+', 0, 0, 0, 9999, 0, 9999, 0, 9999, 9999, 4999, 5000, 9999, 5000, 5000, 0, 9999, 1, 0, 1, 9999, 0,
                9999, 2, 1, 9999, 9999, 9998);
    }

    private static void differences() {
        Due.words("sums, differences, products are taken modulo 10000; the lower one - the upper one");
        join('-', 0, 0, 0, 9999, 9999, 0, 9999, 0, 9999, 1, 0, 1, 0, 1, 9999, 0, 9999, 1, 5, 6, 9999, 1, 9999, 2,
                9998, 9999, 9999);
    }

    private static void products() {
        Due.words("sums, differences, products are taken modulo 10000");
        join('*', 0, 9999, 0, 1, 9999, 9999, 99, 101, 9999, 100, 100, 0, 2, 5000, 0, 2, 5001, 2, 9999, 2, 9998,
                9999, 9999, 1, 9998, 9999, 2);
    }

    private static void likeAndLess() {
        Due.words("= <: 1 if the lower one is the upper one, is less, else 0");
        join('=', 0, 0, 1, 9999, 9999, 1, 0, 1, 0, 1, 0, 0, 9999, 0, 0, 200, 200, 1, 200, 201, 0);
        join('<', 0, 0, 0, 0, 1, 1, 1, 0, 0, 9999, 9999, 0, 9998, 9999, 1, 9999, 9998, 0, 0, 9999, 1, 9999, 0, 0);
    }

    private static void tapeOf120() {
        Due.words("THE TAPE (bytes, 120 at most)");
        for (int n = 1; n <= 8; n++) {
            ServiceGame game = Play.withTeams(1);
            for (int size = n; size <= 120; size += n) {
                Due.is("feed(.., " + n + ")", game.feed('h', n), size);
            }
            int size = 120 / n * n;
            int over = 120 - size + 1;
            Due.is("feed(.., " + over + ") to 121", game.feed('h', over), ServiceGame.FULL);
            Due.is("feed(.., 8) to far more", game.feed('h', 8), ServiceGame.FULL);
            Due.is("count(4)", game.count(4), size);
            if (over > 1) {
                Due.is("feed(.., " + (over - 1) + ") to 120", game.feed('h', over - 1), 120);
            }
            Due.is("patch: the first byte is no 'h' but the highest", game.patch(0, 0), n == 1 ? -11 : -10);
            Due.is("feed(.., 8) on the empty tape", game.feed('h', 8), 8);
        }
    }

    private static void bytesHighestFirst() {
        Due.words("The n lowest bytes of w, the highest first, come behind THE TAPE's");
        String text = "p1234;o;";
        for (int n = 1; n <= 8; n++) {
            ServiceGame game = Play.withTeams(1);
            long w = -1;
            for (int i = 0; i < n; i++) {
                w = w << 8 | text.charAt(i);
            }
            Due.is("feed of " + n, game.feed(w, n), n);
            int[] want = {-11, 1, 1, 1, 1, -16, 2, -18};
            Due.is("patch of " + text.substring(0, n), game.patch(0, 0), want[n - 1]);
        }
        ServiceGame game = Play.withTeams(1);
        game.feed('p', 1);
        game.feed('4' << 8 | '2', 2);
        game.feed(';' << 8 | 'o', 2);
        Due.is("patch of p42;o", game.patch(0, 0), 2);
        game.round();
        Due.is("letter to p42;o", game.letter(0, 0, 0, 0, 0), 42);
    }

    private static void bytesOfAllKinds() {
        Due.words("THE TAPE (bytes)");
        for (int high = 0; high < 256; high++) {
            for (int n : new int[] {1, 8}) {
                ServiceGame game = Play.withTeams(1);
                Due.is("feed of byte " + high, game.feed((long) high << 8 * (n - 1), n), n);
                boolean digitLacks = high == 'p' || high == 'j' || high == 'g' || high == 'l' || high == 's';
                boolean starts = STARTS.indexOf(high) >= 0;
                int alone = !starts ? -10 : digitLacks ? -11 : 1;
                Due.is("patch of byte " + high, game.patch(0, 0), n == 1 ? alone : starts ? -11 : -10);
            }
        }
    }

    private static int patched(String text) {
        ServiceGame game = Play.withTeams(1);
        Play.feed(game, text);
        return game.patch(0, 0);
    }

    private static void text(String text, int want) {
        Due.is("patch of " + text, patched(text), want);
    }

    private static void oneStepToTwentyFour() {
        Due.words("STEPS with ; between, 24 at most");
        for (int steps = 1; steps <= 24; steps++) {
            text(Play.steps("b", steps), steps);
            text(Play.steps("g0", steps), steps);
        }
        for (int steps = 25; steps <= 40; steps++) {
            text(Play.steps("b", steps), -10 - 47);
            text(Play.steps("g0", steps), -10 - 71);
        }
        text(Play.steps("h", 24) + ";", -10 - 47);
        text("", -10);
        text(";", -10);
    }

    private static void numbersOfP() {
        Due.words("p and a number (1 to 4 digits, no 0 ahead of another digit)");
        for (int n = 0; n <= 9999; n = n < 30 || n > 9980 ? n + 1 : n + 37) {
            ServiceGame game = Play.running("p" + n + ";o");
            Due.is("letter to p" + n + ";o", game.letter(0, 0, 0, 0, 0), n);
        }
        text("p", -11);
        text("p00", -12);
        text("p01", -12);
        text("p0000", -12);
        text("p10000", -15);
        text("p99999", -15);
    }

    private static void stepsOfJAndG() {
        Due.words("j and a STEP (1 or 2 digits, likewise)");
        for (String sign : new String[] {"j", "g"}) {
            text(sign + "0", 1);
            for (int to = 1; to < 24; to++) {
                text(sign + to + ";h".repeat(to), to + 1);
                text(sign + to + ";h".repeat(to - 1), -210);
            }
        }
        text("j", -11);
        text("g", -11);
        text("j00", -12);
        text("g09", -12);
        text("j100", -13);
        text("g230", -13);
    }

    /** Behind each begin: which bytes a PROGRAM can go on with. */
    private static void firstByteOfAll() {
        Due.words("FAULT: the place of the first byte with which no PROGRAM can go on");
        String[][] begins = {{"", STARTS}, {"a;", STARTS}, {"p", DIGITS}, {"p0", ";"}, {"p1", DIGITS + ";"},
            {"p90", DIGITS + ";"}, {"p123", DIGITS + ";"}, {"p1000", ";"}, {"p9999", ";"}, {"l", "01234567"},
            {"s", "01234567"}, {"l0", ";"}, {"s7", ";"}, {"j", DIGITS}, {"g", DIGITS}, {"j0", ";"}, {"g0", ";"},
            {"j1", DIGITS + ";"}, {"g9", DIGITS + ";"}, {"j10", ";"}, {"g23", ";"}, {"a", ";"}, {"b", ";"}, {"o", ";"},
            {"h", ";"}, {"+", ";"}, {"-", ";"}, {"*", ";"}, {"=", ";"}, {"<", ";"}, {"a;p1;o;", STARTS},
            {Play.steps("a", 23), ";"}, {Play.steps("a", 23) + ";", STARTS}, {Play.steps("a", 24), ""},
            {Play.steps("p1", 24), DIGITS}, {Play.steps("l7", 24), ""}};
        for (String[] begin : begins) {
            int place = begin[0].length();
            for (char next = 0; next < 256; next++) {
                boolean goesOn = begin[1].indexOf(next) >= 0;
                // x is no sign of any PROGRAM: if the byte ahead of it is fine, x is the first that is not.
                text(begin[0] + next + "x", goesOn ? -10 - place - 1 : -10 - place);
            }
        }
    }

    private static void tapeEndsTooEarly() {
        Due.words("the size of THE TAPE, if it ends too early");
        text("", -10);
        for (String end : new String[] {"p", "l", "s", "j", "g"}) {
            text(end, -11);
            text("a;" + end, -13);
        }
        text("a;", -12);
        text("p12;", -14);
        text(Play.steps("a", 23) + ";", -10 - 46);
        text(Play.steps("p9999", 20) + ";", -10 - 120);
        text(Play.steps("p9999", 19) + ";p999;p", -10 - 120);
        text(Play.steps("p9999", 19) + ";p1;p12", 21);
        text(Play.steps("p9999", 19) + ";p1;p1;", -10 - 120);
    }

    private static void firstLostStep() {
        Due.words("if all is read but a STEP of j, g is not there: 200 and the number of the first such");
        text("g0", 1);
        text("g1", -210);
        text("j1;h", 2);
        text("j2;h", -210);
        text("h;j2", -211);
        text("h;g1;j2;h", 4);
        text("h;g4;j5;h", -211);
        text("h;g3;j5;g4", -212);
        text(Play.steps("g23", 24), 24);
        text(Play.steps("g23", 23), -210);
        text(Play.steps("h", 23) + ";g24", -233);
        text(Play.steps("h", 22) + ";g24;h", -232);
        text("g99", -210);
        // a byte at fault, or an end too early, comes ahead of a STEP that is not there
        text("g99;x", -14);
        text("g99;", -14);
        text("g99x", -13);
    }
}
