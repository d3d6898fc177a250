/** The edges of PATCHES, settings and ROUNDS: promises 4, 5, 8 and 10 to 13. */
public final class RoundsEdgesTest {
    private static final String[] ORDERS = {"CPG", "CGP", "PCG", "PGC", "GCP", "GPC"};
    private static final String CHECK = "a;p1;=;j8;b;p1;+;o", PUT = "a;p2;=;j16;b;s0;p0;o", GET = "l0;o";

    public static void main(String[] args) {
        patchesAtTheBegin();
        cellsStay();
        patchInPlaceOfOne();
        theOneAheadStays();
        tapeIsEmptyThen();
        tapeStays();
        takenBack();
        mixModulo997();
        flagModulo10000();
        seedZeroTo999();
        sixOrders();
        keyZeroTo9999();
        keyAtFirst();
        putMustBeZero();
        getOfTheRoundAhead();
        anythingGoes();
        allThree();
        roundsZeroTo99();
        roundWithoutATeam();
        upInARoundThatWas();
        checksOfTheLatest();
        settingsBounds();
        settingsAfterARound();
        Due.close();
    }

    private static int mix(int seed, int r, int t, int s) {
        return (seed * 31 + r * 17 + t * 7 + s * 3) % 997;
    }

    private static int flag(int mix) {
        return (mix * 13 + 1000) % 10000;
    }

    private static String with(String check, String put, String get) {
        return check + ";" + put + ";" + get;
    }

    private static void patchesAtTheBegin() {
        Due.words("PATCHES that were told become PROGRAMS, ahead of the checker's LETTERS");
        ServiceGame game = Play.withTeams(5);
        for (int i = 0; i < 15; i++) {
            Play.patch(game, i / 3, i % 3, Play.GOOD);
        }
        Due.is("round(): all are UP at once", game.round(), 15);
        Play.patch(game, 4, 2, "h");
        Due.is("letter: the PATCH waits", game.letter(0, 4, 2, 1, 5), 6);
        Due.is("round(): one is not, at once", game.round(), 14);
        Due.is("round(): the PROGRAMS stay", game.round(), 14);
    }

    private static void cellsStay() {
        Due.words("PATCHES that were told become PROGRAMS (CELLS stay)");
        ServiceGame game = Play.running("a;s0;b;s7;h");
        game.letter(1, 0, 0, 1234, 9999);
        Play.patch(game, 0, 0, "a;j4;l7;o;l0;o");
        game.round();
        Due.is("cell 0 by the new PROGRAM", game.letter(1, 0, 0, 0, 0), 1234);
        Due.is("cell 7 by the new PROGRAM", game.letter(1, 0, 0, 1, 0), 9999);
    }

    private static void patchInPlaceOfOne() {
        Due.words("in place of one that was told since the latest ROUND");
        ServiceGame game = Play.withTeams(1);
        Due.is("patch", Play.patch(game, 0, 0, "p1;o"), 2);
        Due.is("patch in its place", Play.patch(game, 0, 0, "p1;p2;o"), 3);
        Due.is("patch beside it", Play.patch(game, 0, 1, "p1;p1;p3;o"), 4);
        game.round();
        Due.is("letter", game.letter(0, 0, 0, 0, 0), 2);
        Due.is("letter beside it", game.letter(0, 0, 1, 0, 0), 3);
    }

    private static void theOneAheadStays() {
        Due.words("-10 less the FAULT (the one ahead stays)");
        for (String wrong : new String[] {"", "x", "p5;o;", "p5;o;g9", Play.steps("h", 25)}) {
            ServiceGame game = Play.withTeams(1);
            Play.patch(game, 0, 0, "p1;o");
            Due.is("patch of '" + wrong + "' is at fault", Play.patch(game, 0, 0, wrong) <= -10 ? 1 : 0, 1);
            Due.is("about 1", game.about(0, 0, 1), 1);
            game.round();
            Due.is("letter", game.letter(0, 0, 0, 0, 0), 1);
            Play.patch(game, 0, 0, wrong);
            Due.is("about 1: none waits", game.about(0, 0, 1), 0);
            game.round();
            Due.is("letter: the PROGRAM stays", game.letter(0, 0, 0, 0, 0), 1);
        }
    }

    private static void tapeIsEmptyThen() {
        Due.words("THE TAPE, which is empty then");
        ServiceGame game = Play.withTeams(1);
        Play.feed(game, "p7;o");
        Due.is("patch", game.patch(0, 0), 2);
        Due.is("count(4)", game.count(4), 0);
        Due.is("patch again: an empty text", game.patch(0, 0), -10);
        Play.feed(game, "p7;x");
        Due.is("patch with a FAULT", game.patch(0, 0), -13);
        Due.is("count(4)", game.count(4), 0);
        Due.is("feed: the first byte again", game.feed('h', 1), 1);
        Due.is("patch of h", game.patch(0, 0), 1);
        Play.feed(game, Play.steps("p9999", 20) + ";");
        Due.is("patch of 120 bytes", game.patch(0, 0), -130);
        Due.is("feed after them", game.feed(0x683B68, 3), 3);
        Due.is("patch of h;h", game.patch(0, 0), 2);
    }

    private static void tapeStays() {
        Due.words("NONE (THE TAPE stays)");
        ServiceGame game = new ServiceGame();
        Play.feed(game, "p8;");
        Due.is("patch without a TEAM", game.patch(0, 0), ServiceGame.NONE);
        game.team();
        Due.is("patch of SERVICE 3", game.patch(0, 3), ServiceGame.NONE);
        Due.is("feed: behind what is there", game.feed('o', 1), 4);
        Due.is("patch", game.patch(0, 2), 2);
        game.round();
        Due.is("letter", game.letter(0, 0, 2, 0, 0), 8);
        Play.feed(game, "p9;");
        game.round();
        Due.is("feed: THE TAPE stays through a ROUND", game.feed('o', 1), 4);
    }

    private static void takenBack() {
        Due.words("A PATCH of a TEAM's SERVICE that waits is taken back: its STEPS; STATE: none waits");
        for (int steps : new int[] {1, 2, 23, 24}) {
            ServiceGame game = Play.withTeams(2);
            Due.is("unpatch of none", game.unpatch(1, 2), ServiceGame.STATE);
            Play.patch(game, 1, 2, Play.steps("h", steps));
            Due.is("unpatch of another SERVICE", game.unpatch(1, 1), ServiceGame.STATE);
            Due.is("unpatch of another TEAM", game.unpatch(0, 2), ServiceGame.STATE);
            Due.is("unpatch", game.unpatch(1, 2), steps);
            Due.is("unpatch again", game.unpatch(1, 2), ServiceGame.STATE);
            game.round();
            Due.is("about 0: no PROGRAM", game.about(1, 2, 0), 0);
            Play.patch(game, 1, 2, Play.steps("h", steps));
            game.round();
            Due.is("unpatch: it is a PROGRAM", game.unpatch(1, 2), ServiceGame.STATE);
            Due.is("about 0: it stays", game.about(1, 2, 0), steps);
        }
    }

    /** Whether a SEED and a ROUND below 100 give a TEAM's SERVICE this sum ahead of the modulus. */
    private static int seedOf(int sum, int r, int t, int s) {
        int rest = sum - r * 17 - t * 7 - s * 3;
        return rest >= 0 && rest % 31 == 0 && rest / 31 <= 999 ? rest / 31 : -1;
    }

    /** Holds x and the FLAG against the MIX of every ROUND, TEAM and SERVICE with this sum, for the first such SEED. */
    private static void mixOfSum(int sum) {
        for (int i = 0; i < 1500; i++) {
            int r = i / 15;
            int t = i / 3 % 5;
            int s = i % 3;
            int seed = seedOf(sum, r, t, s);
            if (seed >= 0) {
                ServiceGame game = Play.withTeams(5);
                game.set(1, seed);
                Play.rounds(game, r + 1);
                int mix = sum % 997;
                Due.is("flag of sum " + sum, game.flag(t, s, r), flag(mix));
                int at = ORDERS[mix % 6].indexOf('C');
                Due.is("CHECK's place of sum " + sum, game.check(t, s, at, 0), 0);
                Due.is("x of sum " + sum, game.check(t, s, at, 1), mix);
                return;
            }
        }
        Due.is("there is a SEED for the sum " + sum, 0, 1);
    }

    private static void mixModulo997() {
        Due.words("MIX: (SEED times 31 and r times 17 and t times 7 and s times 3) modulo 997");
        for (int sum : new int[] {0, 3, 7, 17, 31, 995, 996, 997, 998, 999, 1993, 1994, 1995, 9969, 9970, 9971}) {
            mixOfSum(sum);
        }
        int most = 999 * 31 + 99 * 17 + 4 * 7 + 2 * 3;
        ServiceGame game = Play.withTeams(5);
        game.set(1, 999);
        Play.rounds(game, 100);
        Due.is("flag of the greatest sum", game.flag(4, 2, 99), flag(most % 997));
    }

    private static void flagModulo10000() {
        Due.words("FLAG is (MIX times 13 and 1000) modulo 10000");
        int[] mixes = {0, 1, 691, 692, 693, 694, 995, 996};
        int[] flags = {1000, 1013, 9983, 9996, 9, 22, 3935, 3948};
        for (int i = 0; i < mixes.length; i++) {
            Due.is("flag by hand of MIX " + mixes[i], flag(mixes[i]), flags[i]);
            mixOfSum(997 + mixes[i]);
            mixOfSum(2 * 997 + mixes[i]);
        }
    }

    private static void seedZeroTo999() {
        Due.words("SEED 0 .. 999 (0 at first)");
        ServiceGame game = Play.withTeams(1);
        Due.is("set(1, -1)", game.set(1, -1), ServiceGame.BAD);
        Due.is("set(1, 1000)", game.set(1, 1000), ServiceGame.BAD);
        Due.is("set(1, 999)", game.set(1, 999), 0);
        game.round();
        Due.is("flag with SEED 999", game.flag(0, 0, 0), flag(mix(999, 0, 0, 0)));
        ServiceGame first = Play.withTeams(1);
        first.round();
        Due.is("flag with SEED 0", first.flag(0, 0, 0), 1000);
    }

    private static void sixOrders() {
        Due.words("six orders: number (MIX modulo 6, from 0 on) of CPG, CGP, PCG, PGC, GCP, GPC");
        ServiceGame game = Play.withTeams(5);
        int seen = 0;
        for (int r = 0; r < 6; r++) {
            game.round();
            for (int i = 0; i < 15; i++) {
                int mix = mix(0, r, i / 3, i % 3);
                seen |= 1 << mix % 6;
                for (int at = 0; at < 3; at++) {
                    int kind = "CPG".indexOf(ORDERS[mix % 6].charAt(at));
                    Due.is("check " + at + " with MIX " + mix, game.check(i / 3, i % 3, at, 0), kind);
                }
            }
        }
        Due.is("all six were", seen, 63);
    }

    /** ROUND 0 with this KEY of SERVICE s and the number that its PROGRAM adds: how many are UP. */
    private static int upWithKey(int s, int key, int adds, int seed) {
        ServiceGame game = Play.withTeams(1);
        game.set(1, seed);
        game.set(4 + s, key);
        Play.patch(game, 0, s, with("a;p1;=;j8;b;p" + adds + ";+;o", PUT, GET));
        return game.round();
    }

    private static void keyZeroTo9999() {
        Due.words("the ANSWER must be the sum of x and KEY of the SERVICE (0 .. 9999)");
        for (int i = 0; i < 12; i++) {
            int s = i % 3;
            int seed = i / 3 * 8;
            for (int key : new int[] {0, 1, 2, 5000, 9998, 9999, 10000 - Math.max(1, mix(seed, 0, 0, s))}) {
                Due.is("round() with KEY " + key, upWithKey(s, key, key, seed), 1);
                Due.is("round() with one more", upWithKey(s, key, (key + 1) % 10000, seed), 0);
            }
        }
        ServiceGame game = Play.withTeams(1);
        Due.is("set(4, -1)", game.set(4, -1), ServiceGame.BAD);
        Due.is("set(6, 10000)", game.set(6, 10000), ServiceGame.BAD);
    }

    private static void keyAtFirst() {
        Due.words("KEY of the SERVICE (0 .. 9999; 1 at first)");
        for (int s = 0; s < 3; s++) {
            ServiceGame game = Play.withTeams(2);
            Play.patch(game, 1, s, Play.GOOD);
            Due.is("round() with KEY 1", game.round(), 1);
            Due.is("set of KEY", game.set(4 + s, 2), 1);
            Due.is("round() with KEY 2", game.round(), 0);
            game.set(4 + s, 1);
            game.set(4 + (s + 1) % 3, 2);
            Due.is("round() with KEY 2 of another SERVICE", game.round(), 1);
        }
    }

    private static int upWith(String check, String put, String get, int rounds) {
        ServiceGame game = Play.withTeams(1);
        Play.patch(game, 0, 0, with(check, put, get));
        Play.rounds(game, rounds);
        return game.about(0, 0, 2);
    }

    private static void putMustBeZero() {
        Due.words("PUT: (2, FLAG): it must be 0");
        Due.is("UP with 0", upWith(CHECK, PUT, GET, 4), 4);
        Due.is("UP with 1", upWith(CHECK, PUT.replace("p0", "p1"), GET, 4), 0);
        Due.is("UP with 9999", upWith(CHECK, PUT.replace("p0", "p9999"), GET, 4), 0);
        Due.is("UP with no ANSWER", upWith(CHECK, PUT.replace("p0;o", "h;h"), GET, 4), 0);
        Due.is("UP with the FLAG", upWith(CHECK, PUT.replace("p0;o", "b;o"), GET, 4), 0);
        Due.is("UP if it runs out of FUEL", upWith(CHECK, PUT.replace("p0;o", "g14;o"), GET, 4), 0);
        Due.is("UP if it BREAKS", upWith(CHECK, PUT.replace("p0;o", "+;o"), GET, 4), 0);
    }

    private static void getOfTheRoundAhead() {
        Due.words("GET: that of this ROUND, if PUT was ahead of it, else that of the ROUND ahead");
        ServiceGame game = Play.withTeams(5);
        for (int i = 0; i < 15; i++) {
            Play.patch(game, i / 3, i % 3, with(CHECK, PUT, "l0;o"));
        }
        for (int r = 0; r < 100; r++) {
            Due.is("round() " + r, game.round(), 15);
        }
        for (int i = 0; i < 15; i++) {
            int t = i / 3;
            int s = i % 3;
            String order = ORDERS[mix(0, 99, t, s) % 6];
            boolean putAhead = order.indexOf('P') < order.indexOf('G');
            Due.is("GET of ROUND 99", game.check(t, s, order.indexOf('G'), 2), game.flag(t, s, putAhead ? 99 : 98));
        }
        // GET told with the other one's FLAG: CELL 1 has the FLAG of the ROUND ahead of the one in CELL 0.
        String late = "l0;s1;b;s0;p0;o";
        ServiceGame wrong = Play.withTeams(1);
        Play.patch(wrong, 0, 0, "a;p1;=;j8;b;p1;+;o;a;p2;=;j18;" + late + ";l1;o");
        for (int r = 0; r < 12; r++) {
            Due.is("round() " + r + " with the FLAG one too old", wrong.round(), 0);
        }
    }

    private static void anythingGoes() {
        Due.words("in ROUND 0 anything goes then");
        // by MIX, in ROUND 0: 0.0 (0) CPG, 0.1 (3) PGC, 1.0 (7) CGP, 1.1 (10) GCP
        String[] gets = {"p5;o", "h", "o", "g16", "l0;o", "p9999;o"};
        for (String get : gets) {
            ServiceGame game = Play.withTeams(2);
            Play.patch(game, 0, 0, with(CHECK, PUT, get));
            Play.patch(game, 0, 1, with(CHECK, PUT, get));
            Play.patch(game, 1, 0, with(CHECK, PUT, get));
            Play.patch(game, 1, 1, with(CHECK, PUT, get));
            int right = get.equals("l0;o") ? 1 : 0;
            Due.is("round() 0 with GET by " + get, game.round(), 2 + 2 * right);
            Due.is("up of 0.0: PUT is ahead", game.up(0, 0, 0), right);
            Due.is("up of 0.1: PUT is ahead", game.up(0, 1, 0), right);
            Due.is("up of 1.0", game.up(1, 0, 0), 1);
            Due.is("up of 1.1", game.up(1, 1, 0), 1);
            Due.is("round() 1 with GET by " + get, game.round(), 4 * right);
        }
    }

    private static void allThree() {
        Due.words("The SERVICE is UP in the ROUND if all three are as they must be");
        Due.is("all three", upWith(CHECK, PUT, GET, 1), 1);
        Due.is("all but CHECK", upWith(CHECK.replace("p1;+", "p2;+"), PUT, GET, 1), 0);
        Due.is("all but PUT", upWith(CHECK, PUT.replace("p0", "p1"), GET, 1), 0);
        Due.is("all but GET", upWith(CHECK, PUT, "p1;o", 1), 0);
        ServiceGame game = Play.withTeams(1);
        Play.patch(game, 0, 0, with(CHECK, PUT, "p1;o"));
        game.round();
        for (int i = 0; i < 3; i++) {
            Due.is("check 3 of " + i + ": two are right", game.check(0, 0, i, 3), i < 2 ? 1 : 0);
        }
    }

    private static void roundsZeroTo99() {
        Due.words("A ROUND (0 .. 99); FULL: 100 were");
        ServiceGame game = Play.withTeams(1);
        for (int r = 0; r < 100; r++) {
            Due.is("flag of the ROUND to come", game.flag(0, 0, r), ServiceGame.NONE);
            Due.is("round() " + r, game.round(), 0);
            Due.is("flag of the latest ROUND", game.flag(0, 0, r), flag(mix(0, r, 0, 0)));
            Due.is("count(1)", game.count(1), r + 1);
        }
        Due.is("round(), the 101st", game.round(), ServiceGame.FULL);
        Due.is("round() again", game.round(), ServiceGame.FULL);
        Due.is("count(1)", game.count(1), 100);
        Due.is("flag(0, 0, 100)", game.flag(0, 0, 100), ServiceGame.NONE);
        Due.is("up(0, 0, 100)", game.up(0, 0, 100), ServiceGame.NONE);
        Due.is("up(0, 0, 99)", game.up(0, 0, 99), 0);
    }

    private static void roundWithoutATeam() {
        Due.words("STATE: there is no TEAM");
        ServiceGame game = new ServiceGame();
        Due.is("round()", game.round(), ServiceGame.STATE);
        Due.is("count(1)", game.count(1), 0);
        Due.is("team(): no ROUND was", game.team(), 0);
        Due.is("round() with one TEAM", game.round(), 0);
    }

    private static void upInARoundThatWas() {
        Due.words("Whether a TEAM's SERVICE was UP in a ROUND: 1, 0; The FLAG of .. a ROUND that was");
        ServiceGame game = Play.withTeams(2);
        Play.patch(game, 1, 2, Play.GOOD);
        for (int r = 0; r < 100; r++) {
            game.set(6, r == 0 || r == 50 || r == 99 ? 1 : 0);
            game.round();
        }
        for (int r = 0; r < 100; r++) {
            boolean isUp = r == 0 || r == 50 || r == 99;
            Due.is("up(1, 2, " + r + ")", game.up(1, 2, r), isUp ? 1 : 0);
            Due.is("up(1, 1, " + r + ")", game.up(1, 1, r), 0);
            Due.is("flag(1, 2, " + r + ")", game.flag(1, 2, r), flag(mix(0, r, 1, 2)));
        }
        Due.is("about(1, 2, 2)", game.about(1, 2, 2), 3);
        for (int r : new int[] {-1, 100, 101, Integer.MAX_VALUE, Integer.MIN_VALUE}) {
            Due.is("up(1, 2, " + r + ")", game.up(1, 2, r), ServiceGame.NONE);
            Due.is("flag(1, 2, " + r + ")", game.flag(1, 2, r), ServiceGame.NONE);
        }
    }

    private static void checksOfTheLatest() {
        Due.words("What the checker's LETTER i (0 .. 2) had of a TEAM's SERVICE in the latest ROUND");
        ServiceGame game = Play.withTeams(1);
        Due.is("check ahead of a ROUND", game.check(0, 0, 0, 0), ServiceGame.NONE);
        Play.patch(game, 0, 0, "+");
        game.round();
        for (int i = 0; i < 3; i++) {
            Due.is("check 2: it BROKE", game.check(0, 0, i, 2), 10002);
            Due.is("check 3", game.check(0, 0, i, 3), 0);
        }
        Play.patch(game, 0, 0, "g0");
        game.round();
        for (int i = 0; i < 3; i++) {
            Due.is("check 2: it ran out of FUEL", game.check(0, 0, i, 2), 10001);
        }
        Play.patch(game, 0, 0, "b;o");
        game.round();
        for (int i = 0; i < 3; i++) {
            Due.is("check 2: the second number", game.check(0, 0, i, 2), game.check(0, 0, i, 1));
        }
        Play.patch(game, 0, 0, "a;o");
        game.letter(0, 0, 0, 9, 9);
        game.round();
        for (int i = 0; i < 3; i++) {
            Due.is("check 2: the first number", game.check(0, 0, i, 2), game.check(0, 0, i, 0) + 1);
        }
        int[][] wrong = {{-1, 0}, {3, 0}, {0, -1}, {0, 4}, {Integer.MAX_VALUE, 0}, {0, Integer.MIN_VALUE}};
        for (int[] w : wrong) {
            Due.is("check(0, 0, " + w[0] + ", " + w[1] + ")", game.check(0, 0, w[0], w[1]), ServiceGame.NONE);
        }
    }

    private static void settingsBounds() {
        Due.words("FUEL 1 .. 500, SEED 0 .. 999, LIFE 1 .. 9, FROZEN 0 .. 100, KEY 0 .. 9999: what it was");
        int[][] bounds = {{1, 500, 60}, {0, 999, 0}, {1, 9, 3}, {0, 100, 100}, {0, 9999, 1}, {0, 9999, 1}, {0, 9999, 1}};
        for (int what = 0; what < 7; what++) {
            ServiceGame game = new ServiceGame();
            int was = bounds[what][2];
            for (int n = bounds[what][0] - 3; n <= bounds[what][1] + 3; n++) {
                boolean fits = n >= bounds[what][0] && n <= bounds[what][1];
                Due.is("set(" + what + ", " + n + ")", game.set(what, n), fits ? was : ServiceGame.BAD);
                was = fits ? n : was;
            }
        }
    }

    private static void settingsAfterARound() {
        Due.words("1 SEED (STATE: a ROUND was), 2 LIFE (likewise)");
        ServiceGame game = Play.withTeams(2);
        Due.is("set(1, 4)", game.set(1, 4), 0);
        Due.is("set(2, 1)", game.set(2, 1), 3);
        game.round();
        Due.is("set(1, 5)", game.set(1, 5), ServiceGame.STATE);
        Due.is("set(2, 9)", game.set(2, 9), ServiceGame.STATE);
        Due.is("set(1, 1000): BAD is told ahead", game.set(1, 1000), ServiceGame.BAD);
        Due.is("set(2, 10): BAD is told ahead", game.set(2, 10), ServiceGame.BAD);
        game.round();
        Due.is("flag: SEED is 4", game.flag(0, 0, 1), flag(mix(4, 1, 0, 0)));
        Due.is("hand: LIFE is 1", game.hand(1, 0, 0, flag(mix(4, 0, 0, 0))), ServiceGame.STATE);
        Due.is("hand: LIFE is 1", game.hand(1, 0, 0, flag(mix(4, 1, 0, 0))), 1);
        for (int what : new int[] {0, 3, 4, 5, 6}) {
            int first = what == 0 ? 60 : what == 3 ? 100 : 1;
            Due.is("set(" + what + ", 7) after a ROUND", game.set(what, 7), first);
            Due.is("set(" + what + ", 8) after a ROUND", game.set(what, 8), 7);
        }
    }
}
