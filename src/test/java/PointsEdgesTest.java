/** The edges of hand-ins, POINTS, THE BOARD, GAIN, ALIKE and the counts: promises 14 to 19. */
public final class PointsEdgesTest {
    private static final int NO_POINTS = -1000000;

    public static void main(String[] args) {
        lifeOfAFlag();
        lifeAtFirst();
        flagNotPutYet();
        flagOfADownService();
        handedInOnce();
        anotherTeams();
        flagsZeroTo9999();
        tenForEach();
        sixtyByK();
        fourLessForEach();
        belowZero();
        likeOnesTheLesserFirst();
        placesOfTheBoard();
        frozenFromZeroToHundred();
        handInBelongsToTheLatest();
        frozenAheadOfARound();
        gainOfTwoOrMore();
        gainOfTheLatestRound();
        gainBelowZero();
        gainOfNone();
        alikeBothNumbers();
        alikeSinceTheBegin();
        alikeOfFourHundred();
        fuelModuloMillion();
        call512();
        Due.close();
    }

    private static int take(ServiceGame game, int by, int team, int service, int round) {
        return game.hand(by, team, service, game.flag(team, service, round));
    }

    private static void lifeOfAFlag() {
        Due.words("the latest ROUND is r to r and LIFE less 1 (LIFE 1 .. 9)");
        for (int life = 1; life <= 9; life++) {
            for (int later = 0; later <= 10; later++) {
                ServiceGame game = Play.withTeams(2);
                game.set(2, life);
                Play.rounds(game, 5 + later);
                int want = later <= life - 1 ? 4 : ServiceGame.STATE;
                Due.is("hand " + later + " ROUNDS later, LIFE " + life, take(game, 1, 0, 1, 4), want);
            }
        }
        ServiceGame game = Play.withTeams(2);
        Due.is("set(2, 0)", game.set(2, 0), ServiceGame.BAD);
        Due.is("set(2, 10)", game.set(2, 10), ServiceGame.BAD);
    }

    private static void lifeAtFirst() {
        Due.words("LIFE 1 .. 9; 3 at first");
        for (int later = 0; later <= 5; later++) {
            ServiceGame game = Play.withTeams(2);
            Play.rounds(game, 1 + later);
            Due.is("hand " + later + " ROUNDS later", take(game, 1, 0, 1, 0), later <= 2 ? 0 : ServiceGame.STATE);
        }
        ServiceGame last = Play.withTeams(2);
        Play.rounds(last, 100);
        for (int r = 94; r < 100; r++) {
            Due.is("hand of ROUND " + r + " at the end", take(last, 1, 0, 1, r), r >= 97 ? r : ServiceGame.STATE);
        }
    }

    private static void flagNotPutYet() {
        Due.words("the FLAG of another TEAM's SERVICE put in a ROUND r");
        ServiceGame game = Play.withTeams(2);
        int flagOfRoundOne = 17 * 13 + 1000;
        Due.is("hand of ROUND 0's ahead of it", game.hand(1, 0, 0, 1000), ServiceGame.STATE);
        game.round();
        Due.is("hand of ROUND 0's", game.hand(1, 0, 0, 1000), 0);
        Due.is("hand of ROUND 1's ahead of it", game.hand(1, 0, 0, flagOfRoundOne), ServiceGame.STATE);
        game.round();
        Due.is("hand of ROUND 1's", game.hand(1, 0, 0, flagOfRoundOne), 1);
        // With SEED 1 what would be the FLAG of 1.0 in a ROUND ahead of 0: MIX 31 - 17 + 7
        ServiceGame first = Play.withTeams(2);
        first.set(1, 1);
        first.set(2, 9);
        Due.is("hand of none, no ROUND was", first.hand(0, 1, 0, 1273), ServiceGame.STATE);
        for (int r = 0; r < 10; r++) {
            first.round();
            Due.is("hand of none in ROUND " + r, first.hand(0, 1, 0, 1273), ServiceGame.STATE);
        }
    }

    private static void flagOfADownService() {
        Due.words("put in a ROUND r: by the checker, whatever the SERVICE did");
        ServiceGame game = Play.withTeams(3);
        Play.patch(game, 1, 0, Play.GOOD);
        Play.patch(game, 1, 1, "+");
        Due.is("round()", game.round(), 1);
        for (int s = 0; s < 3; s++) {
            Due.is("hand of 1." + s, take(game, 0, 1, s, 0), 0);
        }
    }

    private static void handedInOnce() {
        Due.words("this TEAM has not handed that one in yet");
        ServiceGame game = Play.withTeams(3);
        Play.rounds(game, 2);
        for (int by : new int[] {0, 2}) {
            for (int r = 0; r < 2; r++) {
                Due.is("hand", take(game, by, 1, 1, r), r);
                Due.is("hand again", take(game, by, 1, 1, r), ServiceGame.STATE);
            }
        }
        game.round();
        Due.is("hand again after a ROUND", take(game, 0, 1, 1, 1), ServiceGame.STATE);
        Due.is("count(2)", game.count(2), 4);
        Due.is("points(0, 4)", game.points(0, 4), 2);
    }

    private static void anotherTeams() {
        Due.words("BAD: .. its own");
        ServiceGame game = Play.withTeams(5);
        Due.is("hand of its own ahead of a ROUND", game.hand(0, 0, 0, 1000), ServiceGame.BAD);
        game.round();
        for (int t = 0; t < 5; t++) {
            for (int by = 0; by < 5; by++) {
                Due.is("hand by " + by + " of " + t, take(game, by, t, 2, 0), by == t ? ServiceGame.BAD : 0);
            }
        }
        Due.is("hand of its own with a FLAG of none", game.hand(1, 1, 0, 5), ServiceGame.BAD);
    }

    private static void flagsZeroTo9999() {
        Due.words("BAD: flag not 0 .. 9999");
        ServiceGame game = Play.withTeams(2);
        game.round();
        Due.is("hand of 0", game.hand(1, 0, 0, 0), ServiceGame.STATE);
        Due.is("hand of 9999", game.hand(1, 0, 0, 9999), ServiceGame.STATE);
        for (int flag : new int[] {-1, 10000, 11000, -9000, Integer.MAX_VALUE, Integer.MIN_VALUE}) {
            Due.is("hand of " + flag, game.hand(1, 0, 0, flag), ServiceGame.BAD);
        }
        Due.is("hand of 1000", game.hand(1, 0, 0, 1000), 0);
    }

    private static void tenForEach() {
        Due.words("UP: 10 for each SERVICE and ROUND in which it is UP");
        ServiceGame game = Play.withTeams(5);
        for (int i = 0; i < 3; i++) {
            Play.patch(game, 4, i, Play.GOOD);
        }
        Due.is("points(4, 1) at first", game.points(4, 1), 0);
        for (int r = 1; r <= 100; r++) {
            game.round();
            Due.is("points(4, 1) after " + r, game.points(4, 1), 30 * r);
            Due.is("points(3, 1) after " + r, game.points(3, 1), 0);
        }
        Due.is("points(4, 0): the most by UP", game.points(4, 0), 3000);
        Due.is("board(0, 1)", game.board(0, 1), 3000);
    }

    private static void sixtyByK() {
        Due.words("a FLAG that k TEAMS handed in gives each of them 60 by k, cut (as it stands now)");
        ServiceGame game = Play.withTeams(5);
        game.round();
        int[] share = {0, 60, 30, 20, 15};
        for (int k = 1; k <= 4; k++) {
            take(game, k, 0, 1, 0);
            for (int t = 1; t <= 4; t++) {
                Due.is("points(" + t + ", 2) with k " + k, game.points(t, 2), t <= k ? share[k] : 0);
            }
        }
        take(game, 1, 0, 2, 0);
        Due.is("points(1, 2): FLAGS are apart by SERVICE", game.points(1, 2), 75);
        game.round();
        take(game, 1, 0, 1, 1);
        Due.is("points(1, 2): FLAGS are apart by ROUND", game.points(1, 2), 135);
        take(game, 1, 2, 1, 1);
        Due.is("points(1, 2): FLAGS are apart by TEAM", game.points(1, 2), 195);
    }

    private static void fourLessForEach() {
        Due.words("its owner has 4 less for each k");
        ServiceGame game = Play.withTeams(5);
        game.round();
        int off = 0;
        for (int s = 0; s < 3; s++) {
            for (int by = 0; by < 4; by++) {
                take(game, by, 4, s, 0);
                off += 4;
                Due.is("points(4, 3)", game.points(4, 3), off);
                Due.is("points(4, 0)", game.points(4, 0), -off);
            }
        }
        Due.is("points(0, 3): no owner", game.points(0, 3), 0);
    }

    private static void belowZero() {
        Due.words("POINTS are the sum; they may be below 0");
        ServiceGame game = Play.withTeams(2);
        Play.patch(game, 0, 0, Play.GOOD);
        game.round();
        for (int s = 0; s < 3; s++) {
            take(game, 1, 0, s, 0);
            Due.is("points(0, 0)", game.points(0, 0), 10 - 4 * (s + 1));
            Due.is("board(1, 1)", game.board(1, 1), 10 - 4 * (s + 1));
        }
        Due.is("points(0, 0)", game.points(0, 0), -2);
        Due.is("points(1, 0)", game.points(1, 0), 180);
        Due.is("board(1, 0)", game.board(1, 0), 0);
    }

    private static void boardIs(ServiceGame game, String call, int... teamsAndPoints) {
        for (int place = 0; place < teamsAndPoints.length / 2; place++) {
            Due.is(call + ": board(" + place + ", 0)", game.board(place, 0), teamsAndPoints[2 * place]);
            Due.is(call + ": board(" + place + ", 1)", game.board(place, 1), teamsAndPoints[2 * place + 1]);
        }
    }

    private static void likeOnesTheLesserFirst() {
        Due.words("TEAMS by POINTS from the greatest on, of like ones the lesser first");
        ServiceGame game = Play.withTeams(5);
        boardIs(game, "all like", 0, 0, 1, 0, 2, 0, 3, 0, 4, 0);
        Play.patch(game, 4, 0, Play.GOOD);
        Play.patch(game, 1, 0, Play.GOOD);
        game.round();
        boardIs(game, "two like two", 1, 10, 4, 10, 0, 0, 2, 0, 3, 0);
        take(game, 3, 0, 0, 0);
        take(game, 2, 0, 0, 0);
        boardIs(game, "two like ones, twice", 2, 30, 3, 30, 1, 10, 4, 10, 0, -8);
        take(game, 0, 1, 0, 0);
        boardIs(game, "one goes up", 0, 52, 2, 30, 3, 30, 4, 10, 1, 6);
        take(game, 4, 2, 0, 0);
        boardIs(game, "one more", 4, 70, 0, 52, 3, 30, 2, 26, 1, 6);
    }

    private static void placesOfTheBoard() {
        Due.words("the TEAM at a place, from 0 on; -1000000: NONE");
        for (int teams = 0; teams <= 5; teams++) {
            ServiceGame game = Play.withTeams(teams);
            for (int place = -1; place <= 6; place++) {
                boolean isThere = place >= 0 && place < teams;
                Due.is("board(" + place + ", 0) of " + teams, game.board(place, 0), isThere ? place : NO_POINTS);
                Due.is("board(" + place + ", 1) of " + teams, game.board(place, 1), isThere ? 0 : NO_POINTS);
                Due.is("board(" + place + ", 2) of " + teams, game.board(place, 2), NO_POINTS);
                Due.is("board(" + place + ", -1) of " + teams, game.board(place, -1), NO_POINTS);
                Due.is("points(" + place + ", 0) of " + teams, game.points(place, 0), isThere ? 0 : NO_POINTS);
                Due.is("points(" + place + ", 4) of " + teams, game.points(place, 4), isThere ? 0 : NO_POINTS);
                Due.is("points(" + place + ", 5) of " + teams, game.points(place, 5), NO_POINTS);
                Due.is("points(" + place + ", -1) of " + teams, game.points(place, -1), NO_POINTS);
            }
        }
    }

    private static void frozenFromZeroToHundred() {
        Due.words("FROZEN from a ROUND on (0 .. 100; 100 at first)");
        ServiceGame game = Play.withTeams(2);
        Play.patch(game, 1, 0, Play.GOOD);
        for (int r = 0; r < 100; r++) {
            game.round();
            take(game, 1, 0, 0, r);
            Due.is("board(0, 1) of ROUND " + r, game.board(0, 1), 70 * (r + 1));
        }
        for (int from = 0; from <= 100; from++) {
            game.set(3, from);
            if (from == 0) {
                boardIs(game, "FROZEN 0", 0, 0, 1, 0);
            } else {
                boardIs(game, "FROZEN " + from, 1, 70 * from, 0, -4 * from);
            }
        }
        Due.is("set(3, 101)", game.set(3, 101), ServiceGame.BAD);
        Due.is("set(3, -1)", game.set(3, -1), ServiceGame.BAD);
        game.set(3, 0);
        Due.is("points(1, 0): POINTS are not frozen", game.points(1, 0), 7000);
        Due.is("points(0, 3)", game.points(0, 3), 400);
    }

    private static void handInBelongsToTheLatest() {
        Due.words("a hand-in belongs to the ROUND that was the latest as it came");
        ServiceGame game = Play.withTeams(3);
        Play.rounds(game, 3);
        take(game, 1, 0, 0, 0);
        game.round();
        take(game, 2, 0, 0, 1);
        int[][] want = {{0, 0, 1, 0, 2, 0}, {0, 0, 1, 0, 2, 0}, {0, 0, 1, 0, 2, 0}, {1, 60, 2, 0, 0, -4},
            {1, 60, 2, 60, 0, -8}, {1, 60, 2, 60, 0, -8}};
        for (int from = 0; from <= 5; from++) {
            game.set(3, from);
            boardIs(game, "FROZEN " + from, want[from]);
        }
        ServiceGame shared = Play.withTeams(3);
        shared.round();
        take(shared, 1, 0, 0, 0);
        shared.round();
        take(shared, 2, 0, 0, 0);
        shared.set(3, 1);
        boardIs(shared, "k of what happened ahead", 1, 60, 2, 0, 0, -4);
        shared.set(3, 2);
        boardIs(shared, "k of all", 1, 30, 2, 30, 0, -8);
    }

    private static void frozenAheadOfARound() {
        Due.words("THE BOARD tells POINTS by what happened in ROUNDS ahead of that");
        ServiceGame game = Play.withTeams(2);
        game.set(3, 1);
        Play.patch(game, 1, 1, Play.GOOD);
        boardIs(game, "no ROUND was", 0, 0, 1, 0);
        game.round();
        boardIs(game, "ROUND 0", 1, 10, 0, 0);
        take(game, 0, 1, 0, 0);
        boardIs(game, "hand-in of ROUND 0", 0, 60, 1, 6);
        game.round();
        take(game, 0, 1, 0, 1);
        boardIs(game, "ROUND 1", 0, 60, 1, 6);
        Due.is("points(0, 0)", game.points(0, 0), 120);
        Due.is("points(1, 0)", game.points(1, 0), 12);
    }

    private static void gainOfTwoOrMore() {
        Due.words("HELPERS: a set of TEAMS (2 or more); BAD: a bit of none, fewer than two");
        for (int teams = 0; teams <= 5; teams++) {
            ServiceGame game = Play.withTeams(teams);
            for (int set = 0; set < 64; set++) {
                boolean fits = set < 1 << teams && Integer.bitCount(set) >= 2;
                Due.is("gain(" + set + ") ahead of a ROUND", game.gain(set), fits ? -1000001 : NO_POINTS);
            }
            game.round();
            int[] of = {0, 0, 336, 468, 576, 660};
            for (int set = 0; set < 64; set++) {
                boolean fits = set < 1 << teams && Integer.bitCount(set) >= 2;
                Due.is("gain(" + set + ")", game.gain(set), fits ? of[Integer.bitCount(set)] : NO_POINTS);
            }
            for (int bit = teams; bit < 32; bit++) {
                Due.is("gain of bit " + bit, game.gain(3 | 1 << bit), NO_POINTS);
            }
        }
    }

    private static void gainOfTheLatestRound() {
        Due.words("all FLAGS of the others of the set of the latest ROUND that it has not handed in");
        ServiceGame game = Play.withTeams(3);
        game.round();
        for (int i = 0; i < 3; i++) {
            take(game, 0, 1, i, 0);
            Due.is("gain(3), some handed in", game.gain(3), 336 - 56 * (i + 1));
        }
        for (int i = 0; i < 3; i++) {
            take(game, 1, 0, i, 0);
        }
        Due.is("gain(3), all handed in", game.gain(3), 0);
        take(game, 2, 0, 0, 0);
        Due.is("gain(3): a third one has no part in it", game.gain(3), 0);
        game.round();
        Due.is("gain(3) of the next ROUND", game.gain(3), 336);
        take(game, 0, 1, 0, 0);
        Due.is("gain(3): a FLAG of the ROUND ahead", game.gain(3), 336);
        String ahead = Play.state(game);
        game.gain(7);
        Play.unchanged("gain(7)", game, ahead);
        Play.rounds(game, 98);
        Due.is("gain(3) of ROUND 99", game.gain(3), 336);
    }

    private static void gainBelowZero() {
        Due.words("what the POINTS of the set together would become more (exactly; below 0, too)");
        ServiceGame game = Play.withTeams(2);
        game.round();
        Due.is("gain(3)", game.gain(3), 336);
        // Of each FLAG all but one have it: 60 in all whether k is 3 or 4, and 4 less for the owner.
        ServiceGame five = Play.withTeams(5);
        five.round();
        for (int i = 0; i < 15; i++) {
            int owner = i / 3;
            for (int by = 0; by < 5; by++) {
                if (by != owner && by != (owner + 1) % 5) {
                    take(five, by, owner, i % 3, 0);
                }
            }
        }
        Due.is("gain(31)", five.gain(31), -4 * 15);
        // Of 0 and 1: 1 takes three FLAGS of 0 as the fourth, 15 each; 0 has each of 1's.
        Due.is("gain(3)", five.gain(3), 3 * (15 - 4));
        // Of 0, 1 and 2: of 0's FLAGS 2 has 20 ahead and 15 then, 1 has 15; so of 1's, where 0 has 20 ahead.
        Due.is("gain(7)", five.gain(7), 2 * 3 * (15 - 5 - 4));
        // Of 0 .. 3: of 0's, 1's, 2's FLAGS two have 20 ahead and 15 then.
        Due.is("gain(15)", five.gain(15), 3 * 3 * (15 - 10 - 4));
    }

    private static void gainOfNone() {
        Due.words("-1000000: BAD; -1000001: STATE: no ROUND was");
        ServiceGame game = Play.withTeams(5);
        Due.is("gain(31)", game.gain(31), -1000001);
        for (int set : new int[] {0, 1, 16, 32, 33, 35, -1, -32, Integer.MIN_VALUE, Integer.MIN_VALUE | 3, Integer.MAX_VALUE}) {
            Due.is("gain(" + set + ") ahead of a ROUND", game.gain(set), NO_POINTS);
        }
        game.round();
        for (int set : new int[] {0, 1, 16, 32, 33, 35, -1, -32, Integer.MIN_VALUE, Integer.MIN_VALUE | 3, Integer.MAX_VALUE}) {
            Due.is("gain(" + set + ")", game.gain(set), NO_POINTS);
        }
    }

    private static void alikeBothNumbers() {
        Due.words("are like one of the checker's of the latest ROUND there");
        ServiceGame game = Play.withTeams(2);
        // ROUND 0 of 1.1: MIX 10, FLAG 1130
        int[][] letters = {{1, 10}, {2, 1130}, {3, 0}, {1, 9}, {1, 11}, {2, 1129}, {2, 1131}, {3, 1}, {0, 10}, {4, 0},
            {0, 0}, {10, 1}, {1, 0}, {1, 1130}, {2, 10}, {2, 0}, {3, 10}, {3, 1130}, {9999, 9999}};
        for (int i = 0; i < letters.length; i++) {
            ServiceGame one = Play.withTeams(2);
            one.letter(0, 1, 1, letters[i][0], letters[i][1]);
            one.round();
            Due.is("alike(1, 1) of " + letters[i][0] + ", " + letters[i][1], one.alike(1, 1), i < 3 ? 1 : 0);
            Due.is("alike(1, 0)", one.alike(1, 0), 0);
            Due.is("alike(0, 1)", one.alike(0, 1), 0);
            game.letter(1, 1, 1, letters[i][0], letters[i][1]);
        }
        game.round();
        Due.is("alike(1, 1) of all", game.alike(1, 1), 3);
    }

    private static void alikeSinceTheBegin() {
        Due.words("that players wrote between the latest ROUND and the one ahead of it (or the begin); STATE: no ROUND was");
        ServiceGame game = Play.withTeams(1);
        game.letter(0, 0, 0, 3, 0);
        game.letter(0, 0, 0, 3, 0);
        Due.is("alike ahead of a ROUND", game.alike(0, 0), ServiceGame.STATE);
        game.round();
        Due.is("alike of ROUND 0", game.alike(0, 0), 2);
        game.letter(0, 0, 0, 3, 0);
        Due.is("alike: a LETTER behind the latest ROUND", game.alike(0, 0), 2);
        game.round();
        Due.is("alike of ROUND 1", game.alike(0, 0), 1);
        game.round();
        Due.is("alike of ROUND 2", game.alike(0, 0), 0);
        Play.rounds(game, 96);
        game.letter(0, 0, 0, 3, 0);
        game.round();
        game.letter(0, 0, 0, 3, 0);
        game.letter(0, 0, 0, 3, 0);
        Due.is("round(), the 101st", game.round(), ServiceGame.FULL);
        Due.is("alike of ROUND 99", game.alike(0, 0), 1);
    }

    private static void alikeOfFourHundred() {
        Due.words("how many LETTERS of a SERVICE of a TEAM; FULL: 400 LETTERS");
        ServiceGame game = Play.withTeams(5);
        for (int i = 0; i < 405; i++) {
            game.letter(i % 5, 4, 2, 3, 0);
        }
        game.round();
        Due.is("alike(4, 2)", game.alike(4, 2), 400);
        game.round();
        Due.is("alike(4, 2) of the next ROUND", game.alike(4, 2), 0);
    }

    private static void fuelModuloMillion() {
        Due.words("5 steps of FUEL that were used in all, modulo 1000000");
        ServiceGame game = Play.withTeams(5);
        game.set(0, 500);
        for (int i = 0; i < 15; i++) {
            Play.patch(game, i / 3, i % 3, "g0");
        }
        Play.rounds(game, 44);
        for (int i = 0; i < 19; i++) {
            game.letter(0, 0, 0, 0, 0);
        }
        Due.is("count(5)", game.count(5), 999500);
        game.set(0, 499);
        game.letter(0, 0, 0, 0, 0);
        Due.is("count(5), one below", game.count(5), 999999);
        game.set(0, 1);
        game.letter(0, 0, 0, 0, 0);
        Due.is("count(5), a million", game.count(5), 0);
        game.letter(0, 0, 0, 0, 0);
        Due.is("count(5), one above", game.count(5), 1);
    }

    private static void call512() {
        Due.words("An object is used for at most 512 calls after it has been made");
        ServiceGame game = Play.withTeams(5);
        Play.patch(game, 0, 0, "h");
        for (int i = 0; i < 400; i++) {
            Due.is("letter " + i, game.letter(i % 5, i / 5 % 5, 1, 3, 0), 10000);
        }
        Due.is("letter, too many", game.letter(0, 0, 0, 3, 0), ServiceGame.FULL);
        for (int r = 0; r < 97; r++) {
            Due.is("round() " + r, game.round(), 0);
        }
        Due.is("call 506: hand", game.hand(4, 3, 2, 9606), 96);
        Due.is("call 507: board", game.board(0, 0), 4);
        Due.is("call 508: points", game.points(3, 0), -4);
        Due.is("call 509: count", game.count(3), 400);
        Due.is("call 510: gain", game.gain(3), 336);
        Due.is("call 511: alike", game.alike(0, 1), 0);
        Due.is("call 512: about", game.about(0, 0, 0), 1);
    }
}
