import java.util.ArrayList;

/** A game of services, as ../shared/DOC.md tells it; what stands in capitals here is a term of that document. */
public final class ServiceGame {
    public static final int NONE = -1, BAD = -2, STATE = -3, FULL = -4;

    // POINTS and GAIN may be below 0, so their refusals lie far below them.
    private static final int NO_POINTS = -1000000, NO_ROUND_YET = -1000001;

    private static final int TEAMS = 5, SERVICES = 3, ROUNDS = 100, NUMBERS = 10000;
    private static final int CELLS = 8, PILE = 8, STEPS = 24, TAPE = 120, LETTERS = 400;
    private static final int FUEL_MODULUS = 1000000;

    private static final int NO_ANSWER = 10000, OUT_OF_FUEL = 10001, BROKE = 10002;

    private static final int NO_FAULT = -1, LOST_STEP = 200;

    private static final int FUEL = 0, SEED = 1, LIFE = 2, FROZEN = 3, KEY = 4, SETTINGS = 7;
    private static final int[] LEAST = {1, 0, 1, 0, 0, 0, 0};
    private static final int[] MOST = {500, 999, 9, 100, 9999, 9999, 9999};

    private static final int CHECK = 0, PUT = 1, GET = 2, CHECKS = 3;
    private static final int[] ORDERS = {
        CHECK, PUT, GET, CHECK, GET, PUT, PUT, CHECK, GET,
        PUT, GET, CHECK, GET, CHECK, PUT, GET, PUT, CHECK};
    private static final int ANYTHING = -1;

    private final int[] settings = {60, 0, 3, 100, 1, 1, 1};
    private final ArrayList<Service> services = new ArrayList<>();
    private final ArrayList<HandIn> log = new ArrayList<>();
    private final Tape tape = new Tape();
    private final Reader reader = new Reader();
    private final Machine machine = new Machine();
    private final Mail mail = new Mail();
    private final int[] boardPoints = new int[TEAMS];
    private int rounds;
    private int lettersInAll;

    public ServiceGame() {
    }

    // ---- teams, programs

    public int team() {
        if (rounds > 0) {
            return STATE;
        }
        int number = teams();
        if (number >= TEAMS) {
            return FULL;
        }
        for (int s = 0; s < SERVICES; s++) {
            services.add(new Service(number, s));
        }
        return number;
    }

    public int feed(long w, int n) {
        if (n < 1 || n > 8) {
            return BAD;
        }
        if (tape.size + n > TAPE) {
            return FULL;
        }
        tape.append(w, n);
        return tape.size;
    }

    public int patch(int team, int service) {
        Service s = find(team, service);
        if (s == null) {
            return NONE;
        }
        int fault = reader.read(tape);
        tape.size = 0;
        if (fault != NO_FAULT) {
            return -10 - fault;
        }
        Program program = reader.program();
        s.patch = program;
        return program.size;
    }

    public int unpatch(int team, int service) {
        Service s = find(team, service);
        if (s == null) {
            return NONE;
        }
        Program waiting = s.patch;
        if (waiting == null) {
            return STATE;
        }
        s.patch = null;
        return waiting.size;
    }

    public int cell(int team, int service, int c) {
        Service s = find(team, service);
        if (s == null || c < 0 || c >= CELLS) {
            return NONE;
        }
        return s.cells[c];
    }

    public int about(int team, int service, int what) {
        Service s = find(team, service);
        if (s == null) {
            return NONE;
        }
        switch (what) {
            case 0:
                return s.program == null ? 0 : s.program.size;
            case 1:
                return s.patch == null ? 0 : 1;
            case 2:
                return s.upAhead[rounds];
            case 3:
                return s.broken;
            case 4:
                return s.ranDry;
            default:
                return NONE;
        }
    }

    public int set(int what, int n) {
        if (what < 0 || what >= SETTINGS) {
            return NONE;
        }
        if (n < LEAST[what] || n > MOST[what]) {
            return BAD;
        }
        if (rounds > 0 && (what == SEED || what == LIFE)) {
            return STATE;
        }
        int was = settings[what];
        settings[what] = n;
        return was;
    }

    // ---- letters, rounds

    public int letter(int from, int team, int service, int a, int b) {
        Service s = find(team, service);
        if (!isTeam(from) || s == null) {
            return NONE;
        }
        if (!isNumber(a) || !isNumber(b)) {
            return BAD;
        }
        if (mail.size >= LETTERS) {
            return FULL;
        }
        mail.keep(s, a, b);
        lettersInAll++;
        return machine.deliver(s, a, b, settings[FUEL]);
    }

    public int round() {
        if (services.isEmpty()) {
            return STATE;
        }
        if (rounds >= ROUNDS) {
            return FULL;
        }
        int upNow = 0;
        for (int i = 0; i < services.size(); i++) {
            Service s = services.get(i);
            s.takePatch();
            int isUp = writeChecks(s) ? 1 : 0;
            s.upAhead[rounds + 1] = s.upAhead[rounds] + isUp;
            s.likeChecks = 0;
            upNow += isUp;
        }
        // Here, as the letters are dropped with the ROUND and its checks are known.
        mail.countLikeChecks(services);
        mail.size = 0;
        rounds++;
        return upNow;
    }

    public int up(int team, int service, int round) {
        Service s = find(team, service);
        if (s == null || !wasRound(round)) {
            return NONE;
        }
        return s.upAhead[round + 1] - s.upAhead[round];
    }

    public int check(int team, int service, int i, int what) {
        Service s = find(team, service);
        if (s == null || rounds == 0 || i < 0 || i >= CHECKS) {
            return NONE;
        }
        switch (what) {
            case 0:
                return s.checkKinds[i];
            case 1:
                return s.checkNumbers[i];
            case 2:
                return s.checkAnswers[i];
            case 3:
                return s.checkRights[i];
            default:
                return NONE;
        }
    }

    public int flag(int team, int service, int round) {
        Service s = find(team, service);
        if (s == null || !wasRound(round)) {
            return NONE;
        }
        return flagOf(mix(round, s));
    }

    public int hand(int by, int team, int service, int flag) {
        Service s = find(team, service);
        if (!isTeam(by) || s == null) {
            return NONE;
        }
        if (!isNumber(flag) || by == team) {
            return BAD;
        }
        int put = roundThatCounts(by, s, flag);
        if (put < 0) {
            return STATE;
        }
        s.take(by, put, rounds);
        log.add(new HandIn(by, s, put));
        return put;
    }

    // ---- points

    public int points(int team, int what) {
        if (!isTeam(team)) {
            return NO_POINTS;
        }
        switch (what) {
            case 0:
                return pointsAhead(team, ROUNDS);
            case 1:
                return upPoints(team, ROUNDS);
            case 2:
                return stolenPoints(team, ROUNDS);
            case 3:
                return takenOff(team, ROUNDS);
            case 4:
                return handInsBy(team);
            default:
                return NO_POINTS;
        }
    }

    public int board(int place, int what) {
        if (!isTeam(place) || what < 0 || what > 1) {
            return NO_POINTS;
        }
        int teams = teams();
        for (int t = 0; t < teams; t++) {
            boardPoints[t] = pointsAhead(t, settings[FROZEN]);
        }
        for (int t = 0; t < teams; t++) {
            if (placeOnBoard(t, teams) == place) {
                return what == 0 ? t : boardPoints[t];
            }
        }
        return NO_POINTS;
    }

    public int gain(int set) {
        if (set < 0 || set >= 1 << teams() || Integer.bitCount(set) < 2) {
            return NO_POINTS;
        }
        if (rounds == 0) {
            return NO_ROUND_YET;
        }
        int more = 0;
        for (int i = 0; i < services.size(); i++) {
            Service s = services.get(i);
            if ((set >> s.team & 1) == 1) {
                more += gainFromFlag(s, set);
            }
        }
        return more;
    }

    public int alike(int team, int service) {
        Service s = find(team, service);
        if (s == null) {
            return NONE;
        }
        return rounds == 0 ? STATE : s.likeChecks;
    }

    public int count(int what) {
        switch (what) {
            case 0:
                return teams();
            case 1:
                return rounds;
            case 2:
                return log.size();
            case 3:
                return lettersInAll;
            case 4:
                return tape.size;
            case 5:
                return machine.fuelUsed;
            default:
                return NONE;
        }
    }

    // ---- what there is

    private int teams() {
        return services.size() / SERVICES;
    }

    private boolean isTeam(int team) {
        return team >= 0 && team < teams();
    }

    private boolean wasRound(int round) {
        return round >= 0 && round < rounds;
    }

    private static boolean isNumber(int n) {
        return n >= 0 && n < NUMBERS;
    }

    /** The SERVICE of a TEAM, or null if there is none. */
    private Service find(int team, int service) {
        if (!isTeam(team) || service < 0 || service >= SERVICES) {
            return null;
        }
        return services.get(team * SERVICES + service);
    }

    // ---- the checker

    private int mix(int round, Service s) {
        return (settings[SEED] * 31 + round * 17 + s.team * 7 + s.number * 3) % 997;
    }

    private static int flagOf(int mix) {
        return (mix * 13 + 1000) % NUMBERS;
    }

    /** The checker's three LETTERS of the ROUND that begins: whether all are as they must be. */
    private boolean writeChecks(Service s) {
        int mix = mix(rounds, s);
        int order = mix % 6;
        boolean wasPut = false;
        boolean isUp = true;
        for (int i = 0; i < CHECKS; i++) {
            int kind = ORDERS[order * CHECKS + i];
            int number = checkNumber(kind, mix);
            int answer = machine.deliver(s, kind + 1, number, settings[FUEL]);
            int due = dueAnswer(kind, s, mix, wasPut);
            boolean right = due == ANYTHING || due == answer;
            s.keepCheck(i, kind, number, answer, right);
            wasPut = wasPut || kind == PUT;
            isUp = isUp && right;
        }
        return isUp;
    }

    private static int checkNumber(int kind, int mix) {
        if (kind == CHECK) {
            return mix;
        }
        return kind == PUT ? flagOf(mix) : 0;
    }

    private int dueAnswer(int kind, Service s, int mix, boolean wasPut) {
        if (kind == CHECK) {
            return (mix + settings[KEY + s.number]) % NUMBERS;
        }
        if (kind == PUT) {
            return 0;
        }
        if (wasPut) {
            return flagOf(mix);
        }
        return rounds == 0 ? ANYTHING : flagOf(mix(rounds - 1, s));
    }

    // ---- flags and points

    /** The latest ROUND of whose FLAG a hand-in counts now, or -1. */
    private int roundThatCounts(int by, Service s, int flag) {
        int oldest = Math.max(0, rounds - settings[LIFE]);
        for (int r = rounds - 1; r >= oldest; r--) {
            if (flagOf(mix(r, s)) == flag && !s.isTaken(by, r, ROUNDS)) {
                return r;
            }
        }
        return -1;
    }

    /** POINTS by what happened in ROUNDS ahead of a limit, as are the three that they are made of. */
    private int pointsAhead(int team, int limit) {
        return upPoints(team, limit) + stolenPoints(team, limit) - takenOff(team, limit);
    }

    private int upPoints(int team, int limit) {
        int ahead = Math.min(rounds, limit);
        int sum = 0;
        for (int i = 0; i < services.size(); i++) {
            Service s = services.get(i);
            if (s.team == team) {
                sum += 10 * s.upAhead[ahead];
            }
        }
        return sum;
    }

    private int stolenPoints(int team, int limit) {
        int sum = 0;
        for (int i = 0; i < log.size(); i++) {
            HandIn h = log.get(i);
            if (h.by == team && h.service.isTaken(team, h.put, limit)) {
                sum += share(h.service.takers(h.put, limit));
            }
        }
        return sum;
    }

    private int takenOff(int team, int limit) {
        int sum = 0;
        for (int i = 0; i < log.size(); i++) {
            HandIn h = log.get(i);
            if (h.service.team == team && h.service.isTaken(h.by, h.put, limit)) {
                sum += 4;
            }
        }
        return sum;
    }

    private int handInsBy(int team) {
        int sum = 0;
        for (int i = 0; i < log.size(); i++) {
            if (log.get(i).by == team) {
                sum++;
            }
        }
        return sum;
    }

    private static int share(int takers) {
        return takers > 0 ? 60 / takers : 0;
    }

    private int placeOnBoard(int team, int teams) {
        int ahead = 0;
        for (int t = 0; t < teams; t++) {
            boolean more = boardPoints[t] > boardPoints[team];
            boolean likeButLesser = boardPoints[t] == boardPoints[team] && t < team;
            if (more || likeButLesser) {
                ahead++;
            }
        }
        return ahead;
    }

    /** What the set has more, if all of it but the owner have handed in the SERVICE's latest FLAG. */
    private int gainFromFlag(Service s, int set) {
        int latest = rounds - 1;
        int takers = s.takers(latest, ROUNDS);
        int helpers = Integer.bitCount(set) - 1;
        int helpersNow = 0;
        for (int t = 0; t < TEAMS; t++) {
            if ((set >> t & 1) == 1 && s.isTaken(t, latest, ROUNDS)) {
                helpersNow++;
            }
        }
        int takersThen = takers + helpers - helpersNow;
        int then = helpers * share(takersThen) - 4 * takersThen;
        int now = helpersNow * share(takers) - 4 * takers;
        return then - now;
    }

    /** A TEAM's SERVICE. */
    private static final class Service {
        private final int team;
        private final int number;
        private final int[] cells = new int[CELLS];
        /** At r: in how many ROUNDS ahead of r it was UP. */
        private final int[] upAhead = new int[ROUNDS + 1];
        /** For a TEAM and the ROUND of a FLAG: how many ROUNDS were as it was handed in; 0: it was not. */
        private final int[] takenAfter = new int[TEAMS * ROUNDS];
        private final int[] checkKinds = new int[CHECKS];
        private final int[] checkNumbers = new int[CHECKS];
        private final int[] checkAnswers = new int[CHECKS];
        private final int[] checkRights = new int[CHECKS];
        private Program program;
        private Program patch;
        private int broken;
        private int ranDry;
        private int likeChecks;

        private Service(int team, int number) {
            this.team = team;
            this.number = number;
        }

        private void takePatch() {
            if (patch != null) {
                program = patch;
                patch = null;
            }
        }

        private void keepCheck(int i, int kind, int number, int answer, boolean right) {
            checkKinds[i] = kind;
            checkNumbers[i] = number;
            checkAnswers[i] = answer;
            checkRights[i] = right ? 1 : 0;
        }

        private boolean isLikeCheck(int a, int b) {
            for (int i = 0; i < CHECKS; i++) {
                if (checkKinds[i] + 1 == a && checkNumbers[i] == b) {
                    return true;
                }
            }
            return false;
        }

        private void take(int by, int put, int roundsNow) {
            takenAfter[by * ROUNDS + put] = roundsNow;
        }

        /** Whether a TEAM handed in the FLAG of a ROUND, in a ROUND ahead of a limit. */
        private boolean isTaken(int by, int put, int limit) {
            int after = takenAfter[by * ROUNDS + put];
            return after > 0 && after <= limit;
        }

        private int takers(int put, int limit) {
            int sum = 0;
            for (int by = 0; by < TEAMS; by++) {
                if (isTaken(by, put, limit)) {
                    sum++;
                }
            }
            return sum;
        }
    }

    /** A hand-in that counted. */
    private static final class HandIn {
        private final int by;
        private final Service service;
        private final int put;

        private HandIn(int by, Service service, int put) {
            this.by = by;
            this.service = service;
            this.put = put;
        }
    }

    /** The LETTERS that players wrote since the latest ROUND. */
    private static final class Mail {
        private final int[] places = new int[LETTERS];
        private final int[] firsts = new int[LETTERS];
        private final int[] seconds = new int[LETTERS];
        private int size;

        private void keep(Service s, int a, int b) {
            places[size] = s.team * SERVICES + s.number;
            firsts[size] = a;
            seconds[size] = b;
            size++;
        }

        private void countLikeChecks(ArrayList<Service> services) {
            for (int i = 0; i < size; i++) {
                if (places[i] < services.size()) {
                    Service s = services.get(places[i]);
                    s.likeChecks += s.isLikeCheck(firsts[i], seconds[i]) ? 1 : 0;
                }
            }
        }
    }

    /** THE TAPE. */
    private static final class Tape {
        private final int[] bytes = new int[TAPE];
        private int size;

        private void append(long w, int n) {
            for (int i = n - 1; i >= 0; i--) {
                bytes[size] = (int) (w >>> (8 * i) & 255);
                size++;
            }
        }

        /** The byte at a place; -1 behind the last one, which is no sign of a PROGRAM. */
        private int at(int place) {
            return place >= 0 && place < size ? bytes[place] : -1;
        }
    }

    /** A PROGRAM: the sign of each STEP and the number behind that sign. */
    private static final class Program {
        private final int size;
        private final int[] signs;
        private final int[] numbers;

        private Program(int[] signs, int[] numbers, int size) {
            this.size = size;
            this.signs = new int[size];
            this.numbers = new int[size];
            System.arraycopy(signs, 0, this.signs, 0, size);
            System.arraycopy(numbers, 0, this.numbers, 0, size);
        }
    }

    /** Reads a PROGRAM from THE TAPE. */
    private static final class Reader {
        private final int[] signs = new int[STEPS];
        private final int[] numbers = new int[STEPS];
        private int size;
        private int place;

        /** The FAULT of the text, or NO_FAULT. */
        private int read(Tape tape) {
            place = 0;
            size = 0;
            boolean goesOn = true;
            while (goesOn && size < STEPS) {
                if (!readStep(tape)) {
                    return place;
                }
                size++;
                // A ; behind the last STEP that may be is a FAULT itself: nothing can follow it.
                goesOn = tape.at(place) == ';' && size < STEPS;
                if (goesOn) {
                    place++;
                }
            }
            return place < tape.size ? place : lostStep();
        }

        /** Whether a STEP stands at the place, which goes behind it, or else to the byte at fault. */
        private boolean readStep(Tape tape) {
            int sign = tape.at(place);
            signs[size] = sign;
            numbers[size] = 0;
            switch (sign) {
                case 'a': case 'b': case 'o': case 'h':
                case '+': case '-': case '*': case '=': case '<':
                    place++;
                    return true;
                case 'p':
                    place++;
                    return readNumber(tape, 4);
                case 'j': case 'g':
                    place++;
                    return readNumber(tape, 2);
                case 'l': case 's':
                    place++;
                    return readCell(tape);
                default:
                    return false;
            }
        }

        private boolean readNumber(Tape tape, int mostDigits) {
            int number = 0;
            int digits = 0;
            // Behind a 0 ahead no digit may follow, so reading stops there.
            while (digits < mostDigits && isDigit(tape.at(place)) && (digits == 0 || number > 0)) {
                number = number * 10 + tape.at(place) - '0';
                digits++;
                place++;
            }
            numbers[size] = number;
            return digits > 0;
        }

        private boolean readCell(Tape tape) {
            int cell = tape.at(place) - '0';
            if (cell < 0 || cell >= CELLS) {
                return false;
            }
            numbers[size] = cell;
            place++;
            return true;
        }

        private static boolean isDigit(int sign) {
            return sign >= '0' && sign <= '9';
        }

        private int lostStep() {
            for (int i = 0; i < size; i++) {
                boolean jumps = signs[i] == 'j' || signs[i] == 'g';
                if (jumps && numbers[i] >= size) {
                    return LOST_STEP + i;
                }
            }
            return NO_FAULT;
        }

        private Program program() {
            return new Program(signs, numbers, size);
        }
    }

    /** Runs PROGRAMS by LETTERS. */
    private static final class Machine {
        private final int[] pile = new int[PILE];
        private final int[] cellsAhead = new int[CELLS];
        private int height;
        private int first;
        private int second;
        private int fuelUsed;

        /** What a LETTER to a SERVICE is answered, as letter() tells it. */
        private int deliver(Service s, int a, int b, int fuel) {
            if (s.program == null) {
                return NO_ANSWER;
            }
            System.arraycopy(s.cells, 0, cellsAhead, 0, CELLS);
            first = a;
            second = b;
            height = 0;
            int answer = run(s.program, s.cells, fuel);
            if (answer == BROKE) {
                System.arraycopy(cellsAhead, 0, s.cells, 0, CELLS);
                s.broken++;
            } else if (answer == OUT_OF_FUEL) {
                s.ranDry++;
            }
            return answer;
        }

        private int run(Program program, int[] cells, int fuel) {
            int next = 0;
            for (int used = 0; used < fuel && next < program.size; used++) {
                int sign = program.signs[next];
                int number = program.numbers[next];
                fuelUsed = (fuelUsed + 1) % FUEL_MODULUS;
                if (!pileSuits(sign)) {
                    return BROKE;
                }
                if (sign == 'o') {
                    return pile[height - 1];
                }
                if (sign == 'h') {
                    return NO_ANSWER;
                }
                boolean jumps = sign == 'g' || sign == 'j' && pull() == 0;
                next = jumps ? number : next + 1;
                act(sign, number, cells);
            }
            return next < program.size ? OUT_OF_FUEL : NO_ANSWER;
        }

        /** Whether THE PILE has enough for a STEP, and room for what it puts there. */
        private boolean pileSuits(int sign) {
            switch (sign) {
                case 'p': case 'a': case 'b': case 'l':
                    return height < PILE;
                case 's': case 'j': case 'o':
                    return height >= 1;
                case '+': case '-': case '*': case '=': case '<':
                    return height >= 2;
                default:
                    return true;
            }
        }

        /** What a STEP does to THE PILE and CELLS, if it is none that jumps or ends. */
        private void act(int sign, int number, int[] cells) {
            switch (sign) {
                case 'p':
                    push(number);
                    break;
                case 'a':
                    push(first);
                    break;
                case 'b':
                    push(second);
                    break;
                case 'l':
                    push(cells[number]);
                    break;
                case 's':
                    cells[number] = pull();
                    break;
                case '+': case '-': case '*': case '=': case '<':
                    joinTwo(sign);
                    break;
                default:
                    break;
            }
        }

        private void joinTwo(int sign) {
            int upper = pull();
            int lower = pull();
            push(joined(sign, lower, upper));
        }

        private static int joined(int sign, int lower, int upper) {
            switch (sign) {
                case '+':
                    return (lower + upper) % NUMBERS;
                case '-':
                    return (lower - upper + NUMBERS) % NUMBERS;
                case '*':
                    return lower * upper % NUMBERS;
                case '=':
                    return lower == upper ? 1 : 0;
                default:
                    return lower < upper ? 1 : 0;
            }
        }

        private void push(int number) {
            if (height < PILE) {
                pile[height] = number;
                height++;
            }
        }

        private int pull() {
            if (height < 1) {
                return 0;
            }
            height--;
            return pile[height];
        }
    }
}
