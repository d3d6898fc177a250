/** Promises 17 gain, 18 alike, 19 count. */
public final class GainTest {
    public static void main(String[] args) {
        gainOfSets();
        gainIsWhatHandingGives();
        gainBelowZero();
        gainRefusals();
        alike();
        alikeAtTheBegin();
        alikeRefusals();
        counts();
        fuelModulo();
        Due.close();
    }

    private static void gainOfSets() {
        ServiceGame game = Play.withTeams(5);
        game.round();
        Due.is("gain of two", game.gain(0b00011), 2 * 3 * (60 - 4));
        Due.is("gain of two others", game.gain(0b10010), 2 * 3 * (60 - 4));
        Due.is("gain of three", game.gain(0b10101), 3 * 3 * (60 - 8));
        Due.is("gain of four", game.gain(0b11110), 4 * 3 * (60 - 12));
        Due.is("gain of five", game.gain(0b11111), 5 * 3 * (60 - 16));
        for (int s = 0; s < 3; s++) {
            game.hand(0, 1, s, game.flag(1, s, 0));
            game.hand(1, 0, s, game.flag(0, s, 0));
        }
        Due.is("gain of two that did it", game.gain(0b00011), 0);
        game.round();
        Due.is("gain of the latest ROUND", game.gain(0b00011), 336);
    }

    private static int sum(ServiceGame game, int set) {
        int sum = 0;
        for (int t = 0; t < 5; t++) {
            sum += (set >> t & 1) == 1 ? game.points(t, 0) : 0;
        }
        return sum;
    }

    private static ServiceGame halfHanded() {
        ServiceGame game = Play.withTeams(5);
        Play.patch(game, 3, 1, Play.GOOD);
        Play.rounds(game, 2);
        for (int i = 0; i < 75; i += 4) {
            game.hand(i / 15, i / 3 % 5, i % 3, game.flag(i / 3 % 5, i % 3, i % 2));
        }
        return game;
    }

    private static void gainIsWhatHandingGives() {
        for (int set = 0; set < 32; set++) {
            if (Integer.bitCount(set) < 2) {
                continue;
            }
            ServiceGame game = halfHanded();
            int gain = game.gain(set);
            int ahead = sum(game, set);
            for (int i = 0; i < 75; i++) {
                int by = i / 15;
                int owner = i / 3 % 5;
                if ((set >> by & 1) == 1 && (set >> owner & 1) == 1) {
                    game.hand(by, owner, i % 3, game.flag(owner, i % 3, 1));
                }
            }
            Due.is("gain(" + set + ")", gain, sum(game, set) - ahead);
        }
    }

    private static void gainBelowZero() {
        ServiceGame game = Play.withTeams(5);
        game.round();
        for (int i = 0; i < 6; i++) {
            for (int by = 2; by < 5; by++) {
                game.hand(by, i / 3, i % 3, game.flag(i / 3, i % 3, 0));
            }
        }
        Due.is("gain with three from outside", game.gain(0b00011), 6 * (15 - 4));
        for (int i = 0; i < 15; i++) {
            int owner = i / 3;
            for (int by = 0; by < 4; by++) {
                if (owner != by) {
                    game.hand(by, owner, i % 3, game.flag(owner, i % 3, 0));
                }
            }
        }
        // TEAM 4 took those of 0 and 1; of 2 and 3 it makes 60 by 3 for three to 60 by 4 for four: 4 off, each.
        Due.is("gain of all, the last being 4", game.gain(0b11111), 6 * -4);
        Due.is("gain of all but 4", game.gain(0b01111), 0);
    }

    private static void gainRefusals() {
        ServiceGame game = Play.withTeams(3);
        Due.is("gain(3) ahead of a ROUND", game.gain(3), -1000001);
        Due.is("gain(1) ahead of a ROUND", game.gain(1), -1000000);
        Due.is("gain(9) ahead of a ROUND", game.gain(9), -1000000);
        game.round();
        for (int set : new int[] {0, 1, 2, 4, 8, 9, 12, 15, 32, 35, -1, -2, Integer.MIN_VALUE, Integer.MIN_VALUE + 3,
            Integer.MAX_VALUE, 1 << 30 | 3}) {
            Due.is("gain(" + set + ")", game.gain(set), -1000000);
        }
    }

    private static void alike() {
        ServiceGame game = Play.withTeams(2);
        game.set(1, 7);
        game.round();
        // ROUND 1, TEAM 1, SERVICE 2: MIX 7 * 31 + 17 + 7 + 6 = 247, FLAG 4211
        int[][] like = {{1, 247}, {2, 4211}, {3, 0}, {1, 247}};
        int[][] unlike = {{1, 248}, {2, 4210}, {3, 1}, {0, 0}, {4, 0}, {247, 1}, {2, 247}, {1, 4211}, {0, 247}};
        for (int i = 0; i < like.length; i++) {
            game.letter(i % 2, 1, 2, like[i][0], like[i][1]);
        }
        for (int[] l : unlike) {
            game.letter(0, 1, 2, l[0], l[1]);
        }
        game.letter(0, 1, 1, 1, 247);
        game.letter(0, 0, 2, 1, 247);
        game.letter(0, 0, 2, 3, 0);
        game.letter(0, 2, 2, 3, 0);
        game.letter(0, 1, 2, 3, 10000);
        Due.is("alike ahead of ROUND 1: none since the begin", game.alike(1, 2), 0);
        game.round();
        Due.is("check 1", game.check(1, 2, 0, 0) == 0 ? game.check(1, 2, 0, 1) : 247, 247);
        Due.is("alike(1, 2)", game.alike(1, 2), 4);
        Due.is("alike(1, 1)", game.alike(1, 1), 0);
        Due.is("alike(0, 2)", game.alike(0, 2), 1);
        game.letter(0, 1, 2, 3, 0);
        Due.is("alike(1, 2): a LETTER since does not count", game.alike(1, 2), 4);
        game.round();
        Due.is("alike(1, 2): of the latest ROUND", game.alike(1, 2), 1);
        Due.is("alike(0, 2): of the latest ROUND", game.alike(0, 2), 0);
        game.round();
        Due.is("alike(1, 2): none was written", game.alike(1, 2), 0);
    }

    private static void alikeAtTheBegin() {
        ServiceGame game = Play.withTeams(1);
        game.letter(0, 0, 0, 1, 31);
        game.letter(0, 0, 0, 1, 0);
        game.letter(0, 0, 0, 3, 0);
        game.set(1, 1);
        game.round();
        Due.is("alike(0, 0) with the SEED that was set later", game.alike(0, 0), 2);
    }

    private static void alikeRefusals() {
        ServiceGame game = Play.withTeams(2);
        Due.is("alike(0, 0) ahead of a ROUND", game.alike(0, 0), ServiceGame.STATE);
        Due.is("alike(2, 0) ahead of a ROUND", game.alike(2, 0), ServiceGame.NONE);
        game.round();
        Due.is("alike(0, 0)", game.alike(0, 0), 0);
        for (int[] at : new int[][] {{2, 0}, {-1, 0}, {0, 3}, {0, -1}, {Integer.MAX_VALUE, 0}, {0, Integer.MAX_VALUE}}) {
            Due.is("alike(" + at[0] + ", " + at[1] + ")", game.alike(at[0], at[1]), ServiceGame.NONE);
        }
    }

    private static void counts() {
        ServiceGame game = Play.withTeams(3);
        Play.patch(game, 0, 0, "p1;s0;h");
        Play.patch(game, 1, 1, "+");
        game.letter(0, 0, 0, 0, 0);
        Play.rounds(game, 2);
        game.letter(1, 0, 0, 0, 0);
        game.letter(1, 0, 0, 0, 10000);
        game.hand(1, 0, 0, game.flag(0, 0, 1));
        game.hand(1, 0, 0, game.flag(0, 0, 1));
        Play.feed(game, "p12");
        int[] want = {3, 2, 1, 2, 3, 6 * 3 + 6 + 3};
        for (int what = 0; what <= 5; what++) {
            Due.is("count(" + what + ")", game.count(what), want[what]);
        }
        for (int what : new int[] {-1, 6, Integer.MAX_VALUE, Integer.MIN_VALUE}) {
            Due.is("count(" + what + ")", game.count(what), ServiceGame.NONE);
        }
    }

    private static void fuelModulo() {
        ServiceGame game = Play.withTeams(5);
        game.set(0, 500);
        for (int i = 0; i < 15; i++) {
            Play.patch(game, i / 3, i % 3, "g0");
        }
        for (int r = 1; r <= 100; r++) {
            game.round();
            Due.is("count(5) after " + r + " ROUNDS", game.count(5), r * 45 * 500 % 1000000);
        }
    }
}
