/** Rules of the street, as DOC.md promises them; no call throws, and none makes an object. */
public final class ChalkStreet {
    public static final int NONE = -1, BAD = -2, STATE = -3, FULL = -4;
    public static final long NO = -4611686018427387904L;

    private static final int NO_STREET = -5;
    private static final int NOTHING_THERE = -11, PLACE_OUTSIDE = -12, UNLIKE_SORT = -13, SIZE_BELOW_ZERO = -14;

    private static final int LEAST_SQUARES = 4, MOST_SQUARES = 10, RING_SIZES = 7, MOST_STEP = 5, ALL_STEPS = 31;
    private static final int PLAIN = 0, AGAIN = 1, OUT = 2, HOME = 3, BACK = 4, FAR = 5, KINDS = 6;
    private static final int MENDING_KINDS = 4, MOST_NUMBER = 9;
    private static final int OTHER_MOVES = 0, SAME_MOVES = 1, MOVER_WINS = 2, MOVER_LOSES = 3, NOT_ALLOWED = 4;
    private static final int MOST_DIGITS = 18, MOST_MOVES = 12, FIRST_WON = 100;
    private static final long ROW_END = 1000000000000000000L;
    private static final int BELOW_LOST = -100, BELOW_FAULT = -100;

    private static final int MOST_TELLINGS = 12, MOST_YEAR = 999, MOST_TOWN = 9;
    private static final int STREETS = 8, MOST_YEARS = 30, TAKE_OF_NONE = -1000000;
    private static final int PLAYERS = 4, FIRST_MARBLES = 20, MOST_STAKE = 9;
    private static final int MOST_TAPE = 160, MOST_TEXTS = 6, MOST_OPEN = 5, MOST_NUMBER_DIGITS = 4;
    private static final String FIRST_TEXT = "take won ; keep endless < 3 ;";
    private static final int SHEETS = 4, MOST_ITEMS = 40, BYTES = 0, SHORTS = 1, INTS = 2, MISSING = -1;

    private static final int TAKE_PART = 0, KEEP_PART = 1;
    private static final int FACT_YEAR = 0, FACT_WON = 1, FACT_LOST = 2, FACT_ENDLESS = 3, FACT_STEPS = 4, FACT_OWN = 5;
    private static final int FACTS = 6;

    // Signs are tokens of their own byte (from 40 on); the other tokens stay below them.
    private static final int END = 0, BROKEN = 1, NUMBER = 2, TAKE = 3, KEEP = 4, OR = 5, AND = 6, NOT = 7;
    private static final int NAME = 8; // and on: a NAME's token is this and its fact

    // In a kept text what is not below 0 is a number; the facts are -1 - fact, the doings stand below them.
    private static final int DO_OR = -11, DO_AND = -12, DO_NOT = -13, DO_LESS = -14, DO_EQUAL = -15;
    private static final int DO_ADD = -16, DO_SUBTRACT = -17, DO_TIMES = -18, DO_NEGATE = -19;

    private final Rules rules;
    private final Worths worths = new Worths();
    private final Mender mender;
    private final Tally tally = new Tally();
    private final Tellings tellings;
    private final Rules plain;
    private final Quarrel quarrelling;
    private final Reader reader = new Reader();
    private final Texts texts = new Texts();
    private final Streets streets = new Streets();
    private final Sheets sheets = new Sheets();
    private final Row purses = new Row(PLAYERS);
    private final Row facts = new Row(FACTS);
    private int year = 0;
    private int rule = 0;

    public ChalkStreet(int squares) {
        int size = LEAST_SQUARES + Math.floorMod(squares, RING_SIZES);
        rules = new Rules(size);
        plain = new Rules(size);
        mender = new Mender(size);
        tellings = new Tellings(size);
        quarrelling = new Quarrel(size);
        purses.fill(FIRST_MARBLES);
        reader.write(FIRST_TEXT);
        reader.read();
        texts.keep(reader);
        reader.empty();
    }

    public int square(int square, int kind, int number) {
        if (!rules.onRing(square) || !isKind(kind) || !isNumber(number)) return BAD;
        int before = rules.kinds.at(square);
        rules.lay(square, kind, number);
        return before;
    }

    public int steps(int set) {
        if (set < 1 || set > ALL_STEPS) return BAD;
        int before = rules.allowed;
        rules.allowed = set;
        return before;
    }

    public int squareTold(int square, int what) {
        if (!rules.onRing(square) || what < 0 || what > 1) return BAD;
        return what == 0 ? rules.kinds.at(square) : rules.numbers.at(square);
    }

    // ---- what is won

    public int worth(int square) {
        if (!rules.onRing(square)) return BAD;
        worths.judge(rules);
        int found = worths.found.at(square);
        return found < 0 ? BELOW_LOST + found : found;
    }

    public int best(int square) {
        if (!rules.onRing(square)) return BAD;
        worths.judge(rules);
        return worths.bestStep(square);
    }

    public int many(int what) {
        if (what < 0 || what > 2) return BAD;
        worths.judge(rules);
        return worths.howMany(what);
    }

    public int ring(int square) {
        if (!rules.onRing(square)) return BAD;
        worths.judge(rules);
        return worths.found.at(square) == 0 ? worths.ringFrom(square) : NONE;
    }

    public int mend(int i) {
        mender.find(rules);
        if (i == -1) return mender.needed;
        if (i < 0 || i >= mender.needed) return NONE;
        return i == 0 ? mender.first : mender.second;
    }

    public long plays(int m, int what) {
        if (m < 0 || m > MOST_MOVES || what < 0 || what > 2) return NO;
        tally.reckon(rules, m);
        if (what == 2) return tally.goingOn();
        return what == 0 ? tally.firstWon : tally.secondWon;
    }

    public int play(long row) {
        return isRow(row) ? rules.ledTo(row) : BAD;
    }

    // ---- tellings

    public int telling(int year, int town) {
        if (!isYear(year) || town < 0 || town > MOST_TOWN) return BAD;
        if (tellings.told >= MOST_TELLINGS) return FULL;
        int telling = tellings.add(rules, year, town);
        weigh(telling);
        return telling;
    }

    public int gap(int telling, int square) {
        if (!tellings.known(telling) || !rules.onRing(square)) return BAD;
        if (tellings.isGap(telling, square)) return STATE;
        tellings.openGap(telling, square);
        weigh(telling);
        return tellings.howManyGaps(telling);
    }

    public int date(int telling, int year) {
        if (!tellings.known(telling) || !isYear(year)) return BAD;
        int before = tellings.years.at(telling);
        tellings.years.put(telling, year);
        return before;
    }

    public int take(int telling) {
        if (!tellings.known(telling)) return BAD;
        tellings.layPlain(telling, rules);
        return tellings.howManyGaps(telling);
    }

    public int changes(int a, int b) {
        if (!tellings.known(a) || !tellings.known(b)) return BAD;
        return tellings.changesBetween(a, b);
    }

    public int child(int telling) {
        return tellings.known(telling) ? tellings.parentOf(telling) : BAD;
    }

    public int tree(int what) {
        if (what == 0) return tellings.allChanges();
        if (what == 1) return tellings.howManyMoved();
        return what == 2 ? tellings.howManyOfNone() : BAD;
    }

    public int stood(int telling, int square) {
        if (!tellings.known(telling) || !rules.onRing(square)) return BAD;
        if (!tellings.isGap(telling, square)) return STATE;
        return tellings.mayHaveStood(telling, square);
    }

    public long quarrel(int a, int b) {
        if (!tellings.known(a) || !tellings.known(b)) return NO;
        tellings.layPlain(a, quarrelling.one);
        tellings.layPlain(b, quarrelling.two);
        return quarrelling.find();
    }

    // ---- streets

    public int feed(int n, long bytes) {
        if (n < 1 || n > 8) return BAD;
        if (reader.written + n > MOST_TAPE) return FULL;
        for (int i = 0; i < n; i++) reader.add((int) (bytes >>> (8 * i)) & 255);
        return reader.written;
    }

    public int text() {
        if (texts.kept >= MOST_TEXTS) return FULL;
        int fault = reader.read();
        reader.empty();
        return fault == NONE ? texts.keep(reader) : BELOW_FAULT - fault;
    }

    public int force(int text) {
        if (text < 0 || text >= texts.kept) return BAD;
        int before = rule;
        rule = text;
        return before;
    }

    public long says(int telling, int part) {
        if (!tellings.known(telling) || part < TAKE_PART || part > KEEP_PART) return NO;
        return comesTo(telling, part);
    }

    public int street(int street, int telling) {
        if (!isStreet(street) || telling != NONE && !tellings.known(telling)) return NO_STREET;
        int before = streets.follows.at(street);
        streets.follows.put(street, telling);
        return before;
    }

    public int years(int n) {
        if (n < 1 || n > MOST_YEARS) return BAD;
        if (year + n > MOST_YEAR) return FULL;
        for (int i = 0; i < n; i++) {
            year++;
            weighStreets();
            streets.goBy();
        }
        return year;
    }

    public int has(int street) {
        return isStreet(street) ? streets.follows.at(street) : BAD;
    }

    public int game(int first, int second, int stake, long row) {
        if (!isPlayer(first) || !isPlayer(second) || first == second) return BAD;
        if (stake < 0 || stake > MOST_STAKE || !isRow(row)) return BAD;
        int end = rules.ledTo(row);
        if (end < 0) return STATE;
        if (end < FIRST_WON) return 2;
        boolean firstWon = end == FIRST_WON;
        if (firstWon) give(second, first, stake);
        else give(first, second, stake);
        return firstWon ? 0 : 1;
    }

    public int marbles(int player) {
        return isPlayer(player) ? purses.at(player) : BAD;
    }

    public int count(int what) {
        switch (what) {
            case 0: return rules.size;
            case 1: return rules.allowed;
            case 2: return tellings.told;
            case 3: return texts.kept;
            case 4: return reader.written;
            case 5: return rule;
            case 6: return year;
            case 7: return streets.howManyFollow();
            default: return BAD;
        }
    }

    // ---- the host

    public int sheet(int sheet, int sort, int n) {
        if (!isSheet(sheet) || sort != MISSING && !isSort(sort)) return BAD;
        if (sort != MISSING && n > MOST_ITEMS) return BAD;
        if (sort != MISSING && n < 0) return SIZE_BELOW_ZERO;
        sheets.become(sheet, sort, sort == MISSING ? 0 : n);
        return 1;
    }

    public int cell(int sheet, int i, int v) {
        if (!isSheet(sheet)) return BAD;
        if (sheets.isMissing(sheet)) return NOTHING_THERE;
        if (!sheets.reaches(sheet, i, 1)) return PLACE_OUTSIDE;
        sheets.write(sheet, i, v);
        return 1;
    }

    public int copy(int sheet, int i, int other, int j, int n) {
        if (!isSheet(sheet) || !isSheet(other)) return BAD;
        if (sheets.isMissing(sheet) || sheets.isMissing(other)) return NOTHING_THERE;
        if (sheets.sorts.at(sheet) != sheets.sorts.at(other)) return UNLIKE_SORT;
        if (!sheets.reaches(sheet, i, n) || !sheets.reaches(other, j, n)) return PLACE_OUTSIDE;
        sheets.carry(sheet, i, other, j, n);
        return n;
    }

    public int squares(int sheet, int sort, int from, int n) {
        if (!isSheet(sheet) || !isSort(sort) || n < 0 || n > MOST_SQUARES) return BAD;
        if (!sheets.isMissing(sheet) && sheets.sorts.at(sheet) != sort) return UNLIKE_SORT;
        if (sheets.isMissing(sheet)) return NOTHING_THERE;
        int told = 0;
        for (int square = 0; square < n; square++) {
            // The first place is tested before any sum can run over, and a place within the row is a small one.
            int place = from + 2 * square;
            if (!sheets.reaches(sheet, place, 2)) return PLACE_OUTSIDE;
            int kind = sheets.read(sheet, place);
            int number = sheets.read(sheet, place + 1);
            if (!rules.onRing(square) || !isKind(kind) || !isNumber(number)) continue;
            rules.lay(square, kind, number);
            told++;
        }
        return told;
    }

    public int taken(int square, int k) {
        if (!isKind(k)) return BAD;
        if (!rules.onRing(square)) return NOTHING_THERE;
        return isUnder(rules.kinds.at(square), k) ? rules.numbers.at(square) : UNLIKE_SORT;
    }

    private static boolean isKind(int kind) {
        return kind >= 0 && kind < KINDS;
    }

    private static boolean isNumber(int number) {
        return number >= 0 && number <= MOST_NUMBER;
    }

    private static boolean isRow(long row) {
        return row >= 0 && row < ROW_END;
    }

    private static boolean isYear(int year) {
        return year >= 0 && year <= MOST_YEAR;
    }

    private static boolean isStreet(int street) {
        return street >= 0 && street < STREETS;
    }

    private static boolean isPlayer(int player) {
        return player >= 0 && player < PLAYERS;
    }

    private static boolean isSheet(int sheet) {
        return sheet >= 0 && sheet < SHEETS;
    }

    private static boolean isSort(int sort) {
        return sort >= BYTES && sort <= INTS;
    }

    private static boolean isUnder(int kind, int upper) {
        if (kind == upper || upper == PLAIN) return true;
        return kind == BACK && upper == AGAIN || kind == FAR && upper == HOME;
    }

    /** The years that go by ask for these counts again and again, and nothing but a gap changes them. */
    private void weigh(int telling) {
        tellings.layPlain(telling, plain);
        worths.judge(plain);
        tellings.weighed(telling, worths);
    }

    private int comesTo(int telling, int part) {
        tellings.tellFacts(telling, facts);
        facts.put(FACT_YEAR, year);
        return texts.reckon(rule, part, facts);
    }

    private void weighStreets() {
        for (int street = 0; street < STREETS; street++) {
            int telling = streets.follows.at(street);
            boolean follows = telling != NONE;
            streets.takes.put(street, follows ? comesTo(telling, TAKE_PART) : TAKE_OF_NONE);
            streets.keeps.put(street, follows ? comesTo(telling, KEEP_PART) : 1);
        }
    }

    private void give(int loser, int winner, int stake) {
        int given = Math.min(stake, purses.at(loser));
        purses.put(loser, purses.at(loser) - given);
        purses.put(winner, purses.at(winner) + given);
    }

    /** Numbers in a row: a place outside reads 0 and is never written, so that no index can throw. */
    private static final class Row {
        private final int[] items;

        Row(int size) {
            items = new int[Math.max(size, 0)];
        }

        int at(int place) {
            return place >= 0 && place < items.length ? items[place] : 0;
        }

        void put(int place, int number) {
            if (place >= 0 && place < items.length) items[place] = number;
        }

        void fill(int number) {
            for (int i = 0; i < items.length; i++) items[i] = number;
        }

        void move(int from, int to, int n) {
            if (from < 0 || to < 0 || n < 0) return;
            if (from > items.length - n || to > items.length - n) return;
            System.arraycopy(items, from, items, to, n);
        }
    }

    /** A SET of RULES on a ring. */
    private static final class Rules {
        private final int size;
        private final Row kinds = new Row(MOST_SQUARES);
        private final Row numbers = new Row(MOST_SQUARES);
        private int allowed = 1;

        Rules(int size) {
            this.size = size;
        }

        boolean onRing(int square) {
            return square >= 0 && square < size;
        }

        boolean allows(int step) {
            return step >= 1 && step <= MOST_STEP && (allowed >> (step - 1) & 1) == 1;
        }

        void lay(int square, int kind, int number) {
            kinds.put(square, kind);
            numbers.put(square, number);
        }

        void become(Rules other) {
            for (int s = 0; s < MOST_SQUARES; s++) lay(s, other.kinds.at(s), other.numbers.at(s));
            allowed = other.allowed;
        }

        boolean isLike(Rules other) {
            boolean like = allowed == other.allowed;
            for (int s = 0; s < MOST_SQUARES; s++) {
                like &= kinds.at(s) == other.kinds.at(s) && numbers.at(s) == other.numbers.at(s);
            }
            return like;
        }

        int outcome(int from, int step) {
            int to = around(from + step);
            switch (kinds.at(to)) {
                case AGAIN:
                case BACK: return SAME_MOVES;
                case OUT: return MOVER_LOSES;
                case HOME: return MOVER_WINS;
                case FAR: return step > numbers.at(to) ? MOVER_WINS : OTHER_MOVES;
                default: return OTHER_MOVES;
            }
        }

        int landing(int from, int step) {
            int to = around(from + step);
            return kinds.at(to) == BACK ? around(to - numbers.at(to)) : to;
        }

        /** Where a row leads, as play() tells it. */
        int ledTo(long row) {
            int place = 0;
            int mover = 0;
            int winner = NONE;
            long rest = row;
            for (int i = 0; i < MOST_DIGITS && rest % 10 != 0; i++) {
                int step = (int) (rest % 10);
                rest /= 10;
                if (winner != NONE || !allows(step)) return BELOW_FAULT - i;
                int outcome = outcome(place, step);
                place = landing(place, step);
                if (outcome == MOVER_WINS) winner = mover;
                else if (outcome == MOVER_LOSES) winner = 1 - mover;
                else if (outcome == OTHER_MOVES) mover = 1 - mover;
            }
            return winner == NONE ? 10 * mover + place : FIRST_WON + winner;
        }

        private int around(int place) {
            if (size <= 0) return 0;
            int left = place % size;
            return left < 0 ? left + size : left;
        }
    }

    /** What each SQUARE is worth by a SET: 0 ENDLESS, k WON in k, -k LOST in k. */
    private static final class Worths {
        private final Row found = new Row(MOST_SQUARES);
        private final Row outcomes = new Row(MOST_SQUARES * MOST_STEP);
        private final Row landings = new Row(MOST_SQUARES * MOST_STEP);
        private int size = 0;

        /** Goes from the shortest games to the longest; answers how many SQUARES are ENDLESS. */
        int judge(Rules rules) {
            tabulate(rules);
            found.fill(0);
            int endless = size;
            boolean more = true;
            for (int moves = 1; moves <= size && more; moves++) {
                more = false;
                for (int s = 0; s < size; s++) {
                    int worth = found.at(s) == 0 ? settled(s, moves) : 0;
                    if (worth == 0) continue;
                    found.put(s, worth);
                    endless--;
                    more = true;
                }
            }
            return endless;
        }

        /** The best step is in each case the least that keeps what the SQUARE is worth. */
        int bestStep(int square) {
            for (int step = 1; step <= MOST_STEP; step++) {
                boolean allowed = outcomes.at(spot(square, step)) != NOT_ALLOWED;
                if (allowed && value(square, step, size + 1) == found.at(square)) return step;
            }
            return 0;
        }

        int howMany(int what) {
            int sign = what == 0 ? 1 : what == 1 ? -1 : 0;
            int many = 0;
            for (int s = 0; s < size; s++) {
                if (Integer.signum(found.at(s)) == sign) many++;
            }
            return many;
        }

        int ringFrom(int square) {
            int place = square;
            // After as many moves as there are SQUARES the stone is on the ring for certain.
            for (int i = 0; i < size; i++) place = landings.at(spot(place, bestStep(place)));
            int bits = 0;
            for (int i = 0; i < size; i++) {
                bits |= 1 << place;
                place = landings.at(spot(place, bestStep(place)));
            }
            return bits;
        }

        private static int spot(int square, int step) {
            return square * MOST_STEP + step - 1;
        }

        private void tabulate(Rules rules) {
            size = rules.size;
            for (int s = 0; s < size; s++) {
                for (int step = 1; step <= MOST_STEP; step++) {
                    outcomes.put(spot(s, step), rules.allows(step) ? rules.outcome(s, step) : NOT_ALLOWED);
                    landings.put(spot(s, step), rules.landing(s, step));
                }
            }
        }

        /** What a SQUARE is worth, if that takes no more than so many moves; else 0. */
        private int settled(int square, int moves) {
            int soonest = 0;
            int latest = 0;
            boolean open = false;
            for (int step = 1; step <= MOST_STEP; step++) {
                if (outcomes.at(spot(square, step)) == NOT_ALLOWED) continue;
                int value = value(square, step, moves);
                if (value == 0) open = true;
                else if (value < 0) latest = Math.min(latest, value);
                else if (soonest == 0 || value < soonest) soonest = value;
            }
            if (soonest != 0) return soonest;
            return open ? 0 : latest;
        }

        /** What a move is worth to who makes it, by the SQUARES settled in fewer than so many moves. */
        private int value(int square, int step, int moves) {
            int outcome = outcomes.at(spot(square, step));
            if (outcome == MOVER_WINS) return 1;
            if (outcome == MOVER_LOSES) return -1;
            int there = found.at(landings.at(spot(square, step)));
            if (there == 0 || Math.abs(there) >= moves) return 0;
            int further = there > 0 ? there + 1 : there - 1;
            return outcome == SAME_MOVES ? further : -further;
        }
    }

    /** The fewest changes after which no SQUARE is ENDLESS. */
    private static final class Mender {
        private final Rules asked;
        private final Rules trial;
        private final Worths worths = new Worths();
        private boolean answered = false;
        private int needed = NONE;
        private int first = NONE;
        private int second = NONE;

        Mender(int size) {
            asked = new Rules(size);
            trial = new Rules(size);
        }

        /** The search is long, so what was found for the same rules is kept. */
        void find(Rules rules) {
            if (answered && asked.isLike(rules)) return;
            answered = true;
            asked.become(rules);
            trial.become(rules);
            second = NONE;
            if (worths.judge(trial) == 0) {
                needed = 0;
                return;
            }
            first = mendedFrom(0);
            needed = first != NONE ? 1 : NONE;
            for (int s = 0; s < asked.size && needed == NONE; s++) {
                for (int kind = 0; kind < MENDING_KINDS && needed == NONE; kind++) {
                    if (kind == asked.kinds.at(s)) continue;
                    trial.kinds.put(s, kind);
                    first = 10 * s + kind;
                    second = mendedFrom(s + 1);
                    if (second != NONE) needed = 2;
                }
                trial.kinds.put(s, asked.kinds.at(s));
            }
        }

        /** The first change from a SQUARE on that mends the trial; without one the trial is left as it was. */
        private int mendedFrom(int from) {
            for (int s = from; s < asked.size; s++) {
                for (int kind = 0; kind < MENDING_KINDS; kind++) {
                    if (kind == asked.kinds.at(s)) continue;
                    trial.kinds.put(s, kind);
                    if (worths.judge(trial) == 0) return 10 * s + kind;
                }
                trial.kinds.put(s, asked.kinds.at(s));
            }
            return NONE;
        }
    }

    /** Counts PLAYS: a state is ten for the second player to move, and the SQUARE. */
    private static final class Tally {
        private final Row now = new Row(2 * MOST_SQUARES);
        private final Row then = new Row(2 * MOST_SQUARES);
        private int firstWon = 0;
        private int secondWon = 0;

        void reckon(Rules rules, int moves) {
            now.fill(0);
            now.put(0, 1);
            firstWon = 0;
            secondWon = 0;
            for (int i = 0; i < moves; i++) {
                firstWon = 0;
                secondWon = 0;
                then.fill(0);
                for (int state = 0; state < 2 * MOST_SQUARES; state++) {
                    if (now.at(state) != 0) moveOn(rules, state);
                }
                for (int state = 0; state < 2 * MOST_SQUARES; state++) now.put(state, then.at(state));
            }
        }

        int goingOn() {
            int sum = 0;
            for (int state = 0; state < 2 * MOST_SQUARES; state++) sum += now.at(state);
            return sum;
        }

        private void moveOn(Rules rules, int state) {
            int many = now.at(state);
            int mover = state / MOST_SQUARES;
            int place = state % MOST_SQUARES;
            for (int step = 1; step <= MOST_STEP; step++) {
                if (!rules.allows(step)) continue;
                int outcome = rules.outcome(place, step);
                if (outcome == MOVER_WINS || outcome == MOVER_LOSES) {
                    if ((outcome == MOVER_WINS) == (mover == 0)) firstWon += many;
                    else secondWon += many;
                    continue;
                }
                int next = outcome == SAME_MOVES ? mover : 1 - mover;
                int to = next * MOST_SQUARES + rules.landing(place, step);
                then.put(to, then.at(to) + many);
            }
        }
    }

    /** The TELLINGS, in rows side by side; the squares of each lie together. */
    private static final class Tellings {
        private final int size;
        private final Row kinds = new Row(MOST_TELLINGS * MOST_SQUARES);
        private final Row numbers = new Row(MOST_TELLINGS * MOST_SQUARES);
        private final Row allowed = new Row(MOST_TELLINGS);
        private final Row gaps = new Row(MOST_TELLINGS);
        private final Row years = new Row(MOST_TELLINGS);
        private final Row towns = new Row(MOST_TELLINGS);
        private final Row weights = new Row(MOST_TELLINGS * FACTS);
        private final Row havers = new Row(KINDS);
        private int told = 0;

        Tellings(int size) {
            this.size = size;
        }

        boolean known(int telling) {
            return telling >= 0 && telling < told;
        }

        int add(Rules rules, int year, int town) {
            int telling = told;
            for (int s = 0; s < size; s++) {
                kinds.put(spot(telling, s), rules.kinds.at(s));
                numbers.put(spot(telling, s), rules.numbers.at(s));
            }
            allowed.put(telling, rules.allowed);
            years.put(telling, year);
            towns.put(telling, town);
            told++;
            return telling;
        }

        boolean isGap(int telling, int square) {
            return square >= 0 && square < size && (gaps.at(telling) >> square & 1) == 1;
        }

        void openGap(int telling, int square) {
            if (square >= 0 && square < size) gaps.put(telling, gaps.at(telling) | 1 << square);
        }

        int howManyGaps(int telling) {
            return Integer.bitCount(gaps.at(telling));
        }

        void layPlain(int telling, Rules target) {
            for (int s = 0; s < size; s++) {
                boolean gap = isGap(telling, s);
                int kind = gap ? PLAIN : kinds.at(spot(telling, s));
                int number = gap ? 0 : numbers.at(spot(telling, s));
                target.lay(s, kind, number);
            }
            target.allowed = allowed.at(telling);
        }

        void weighed(int telling, Worths worths) {
            weights.put(telling * FACTS + FACT_WON, worths.howMany(0));
            weights.put(telling * FACTS + FACT_LOST, worths.howMany(1));
            weights.put(telling * FACTS + FACT_ENDLESS, worths.howMany(2));
        }

        /** All but the YEAR that is. */
        void tellFacts(int telling, Row facts) {
            facts.put(FACT_WON, weights.at(telling * FACTS + FACT_WON));
            facts.put(FACT_LOST, weights.at(telling * FACTS + FACT_LOST));
            facts.put(FACT_ENDLESS, weights.at(telling * FACTS + FACT_ENDLESS));
            facts.put(FACT_STEPS, Integer.bitCount(allowed.at(telling)));
            facts.put(FACT_OWN, years.at(telling));
        }

        int changesBetween(int a, int b) {
            int changes = Integer.bitCount(allowed.at(a) ^ allowed.at(b));
            for (int s = 0; s < size; s++) {
                if (isGap(a, s) || isGap(b, s)) continue;
                boolean like = kinds.at(spot(a, s)) == kinds.at(spot(b, s))
                        && numbers.at(spot(a, s)) == numbers.at(spot(b, s));
                if (!like) changes++;
            }
            return changes;
        }

        int parentOf(int telling) {
            int parent = NONE;
            int fewest = 0;
            for (int t = 0; t < told; t++) {
                if (years.at(t) >= years.at(telling)) continue;
                int changes = changesBetween(telling, t);
                if (parent != NONE && changes >= fewest) continue;
                parent = t;
                fewest = changes;
            }
            return parent;
        }

        int allChanges() {
            int sum = 0;
            for (int t = 0; t < told; t++) {
                int parent = parentOf(t);
                if (parent != NONE) sum += changesBetween(t, parent);
            }
            return sum;
        }

        int howManyMoved() {
            int moved = 0;
            for (int t = 0; t < told; t++) {
                int parent = parentOf(t);
                if (parent != NONE && towns.at(parent) != towns.at(t)) moved++;
            }
            return moved;
        }

        int howManyOfNone() {
            int many = 0;
            for (int t = 0; t < told; t++) {
                if (parentOf(t) == NONE) many++;
            }
            return many;
        }

        /** The fewest have another KIND where the most have that one; who has a GAP there has another in any case. */
        int mayHaveStood(int telling, int square) {
            int parent = parentOf(telling);
            havers.fill(0);
            for (int t = 0; t < told; t++) {
                if (t != parent && parentOf(t) != telling || isGap(t, square)) continue;
                int kind = kinds.at(spot(t, square));
                havers.put(kind, havers.at(kind) + 1);
            }
            int most = 0;
            int bits = 0;
            for (int kind = 0; kind < KINDS; kind++) {
                if (havers.at(kind) > most) bits = 0;
                most = Math.max(most, havers.at(kind));
                if (havers.at(kind) == most) bits |= 1 << kind;
            }
            return bits;
        }

        private static int spot(int telling, int square) {
            return telling * MOST_SQUARES + square;
        }
    }

    /** The shortest row at which two SETS quarrel: a pair is ten times the one's SQUARE and the other one's. */
    private static final class Quarrel {
        private static final int PAIRS = MOST_SQUARES * MOST_SQUARES;

        private final Rules one;
        private final Rules two;
        private final Row waiting = new Row(PAIRS);
        private final Row seen = new Row(PAIRS);
        private final Row lengths = new Row(PAIRS);
        private final Row before = new Row(PAIRS);
        private final Row lastSteps = new Row(PAIRS);
        private int met = 0;

        Quarrel(int size) {
            one = new Rules(size);
            two = new Rules(size);
        }

        /** Who is to move need not be in a pair: as long as the games are alike it is the same one in both. */
        long find() {
            seen.fill(0);
            met = 0;
            meet(0, 0, 0);
            lengths.put(0, 0);
            for (int i = 0; i < met && i < PAIRS; i++) {
                int pair = waiting.at(i);
                int step = quarrelStep(pair);
                if (step != 0) return rowTo(pair, step);
            }
            return -1;
        }

        /** The least step at which a pair quarrels, or 0; the pairs that come of lesser steps are met. */
        private int quarrelStep(int pair) {
            int left = pair / MOST_SQUARES;
            int right = pair % MOST_SQUARES;
            for (int step = 1; step <= MOST_STEP; step++) {
                if (!one.allows(step) || !two.allows(step)) continue;
                int outcome = one.outcome(left, step);
                if (outcome != two.outcome(right, step)) return step;
                if (outcome == MOVER_WINS || outcome == MOVER_LOSES) continue;
                meet(one.landing(left, step) * MOST_SQUARES + two.landing(right, step), pair, step);
            }
            return 0;
        }

        private void meet(int pair, int from, int step) {
            if (seen.at(pair) != 0) return;
            seen.put(pair, 1);
            lengths.put(pair, lengths.at(from) + 1);
            before.put(pair, from);
            lastSteps.put(pair, step);
            waiting.put(met, pair);
            met++;
        }

        private long rowTo(int pair, int step) {
            int length = lengths.at(pair);
            if (length + 1 > MOST_DIGITS) return -2;
            long row = step;
            int here = pair;
            for (int i = 0; i < length; i++) {
                row = 10 * row + lastSteps.at(here);
                here = before.at(here);
            }
            return row;
        }
    }

    /** THE TAPE, and how it is read: each method of the grammar stops at the first TOKEN that can't stand there. */
    private static final class Reader {
        private final Row tape = new Row(MOST_TAPE);
        private int written = 0;
        private final Row tokens = new Row(MOST_TAPE + 1);
        private final Row numbers = new Row(MOST_TAPE + 1);
        private final Row places = new Row(MOST_TAPE + 1);
        private int next = 0;
        private final Row code = new Row(MOST_TAPE);
        private int length = 0;
        private int takeLength = 0;

        void write(String text) {
            for (int i = 0; i < text.length(); i++) add(text.charAt(i));
        }

        void add(int sign) {
            if (written >= MOST_TAPE) return;
            tape.put(written, sign);
            written++;
        }

        void empty() {
            written = 0;
        }

        /** NONE, or the place of the FAULT. */
        int read() {
            split();
            next = 0;
            length = 0;
            boolean taken = readsPart(TAKE);
            takeLength = length;
            return taken && readsPart(KEEP) && isNext(END) ? NONE : places.at(next);
        }

        private void split() {
            int place = 0;
            int found = 0;
            for (int i = 0; i < MOST_TAPE && place < written; i++) {
                int sign = tape.at(place);
                if (sign == ' ' || sign == '\n') {
                    place++;
                    continue;
                }
                int to = tokenEnd(place);
                places.put(found, place);
                tokens.put(found, tokenOf(place, to));
                if (tokens.at(found) == NUMBER) numbers.put(found, numberOf(place, to));
                found++;
                place = to;
            }
            places.put(found, written);
            tokens.put(found, END);
        }

        private int tokenEnd(int from) {
            int to = from + 1;
            boolean word = isLetter(tape.at(from));
            boolean number = isDigit(tape.at(from));
            while (to < written && (word && isLetter(tape.at(to)) || number && isDigit(tape.at(to)))) to++;
            return to;
        }

        private int tokenOf(int from, int to) {
            int sign = tape.at(from);
            if (isLetter(sign)) return wordOf(from, to);
            if (isDigit(sign)) return to - from <= MOST_NUMBER_DIGITS ? NUMBER : BROKEN;
            switch (sign) {
                case '(':
                case ')':
                case ';':
                case '+':
                case '-':
                case '*':
                case '<':
                case '=': return sign;
                default: return BROKEN;
            }
        }

        private int wordOf(int from, int to) {
            if (spells("take", from, to)) return TAKE;
            if (spells("keep", from, to)) return KEEP;
            if (spells("or", from, to)) return OR;
            if (spells("and", from, to)) return AND;
            if (spells("not", from, to)) return NOT;
            if (spells("year", from, to)) return NAME + FACT_YEAR;
            if (spells("won", from, to)) return NAME + FACT_WON;
            if (spells("lost", from, to)) return NAME + FACT_LOST;
            if (spells("endless", from, to)) return NAME + FACT_ENDLESS;
            if (spells("steps", from, to)) return NAME + FACT_STEPS;
            return spells("own", from, to) ? NAME + FACT_OWN : BROKEN;
        }

        private int numberOf(int from, int to) {
            int number = 0;
            for (int i = from; i < to && i < from + MOST_NUMBER_DIGITS; i++) number = 10 * number + tape.at(i) - '0';
            return number;
        }

        private boolean spells(String word, int from, int to) {
            if (to - from != word.length()) return false;
            for (int i = 0; i < word.length(); i++) {
                if (tape.at(from + i) != word.charAt(i)) return false;
            }
            return true;
        }

        private static boolean isLetter(int sign) {
            return sign >= 'a' && sign <= 'z';
        }

        private static boolean isDigit(int sign) {
            return sign >= '0' && sign <= '9';
        }

        private boolean isNext(int token) {
            return tokens.at(next) == token;
        }

        private boolean passes(int token) {
            if (!isNext(token)) return false;
            next++;
            return true;
        }

        private void emit(int doing) {
            code.put(length, doing);
            length++;
        }

        private boolean readsPart(int key) {
            return passes(key) && readsEither(0) && passes(';');
        }

        private boolean readsEither(int open) {
            if (!readsBoth(open)) return false;
            for (int i = 0; i < MOST_TAPE && passes(OR); i++) {
                if (!readsBoth(open)) return false;
                emit(DO_OR);
            }
            return true;
        }

        private boolean readsBoth(int open) {
            if (!readsNegated(open)) return false;
            for (int i = 0; i < MOST_TAPE && passes(AND); i++) {
                if (!readsNegated(open)) return false;
                emit(DO_AND);
            }
            return true;
        }

        private boolean readsNegated(int open) {
            if (!isNext(NOT)) return readsCompared(open);
            if (open >= MOST_OPEN) return false;
            next++;
            if (!readsNegated(open + 1)) return false;
            emit(DO_NOT);
            return true;
        }

        private boolean readsCompared(int open) {
            if (!readsSum(open)) return false;
            boolean less = isNext('<');
            if (!less && !isNext('=')) return true;
            next++;
            if (!readsSum(open)) return false;
            emit(less ? DO_LESS : DO_EQUAL);
            return true;
        }

        private boolean readsSum(int open) {
            if (!readsTerm(open)) return false;
            for (int i = 0; i < MOST_TAPE && (isNext('+') || isNext('-')); i++) {
                int doing = isNext('+') ? DO_ADD : DO_SUBTRACT;
                next++;
                if (!readsTerm(open)) return false;
                emit(doing);
            }
            return true;
        }

        private boolean readsTerm(int open) {
            if (!readsOne(open)) return false;
            for (int i = 0; i < MOST_TAPE && passes('*'); i++) {
                if (!readsOne(open)) return false;
                emit(DO_TIMES);
            }
            return true;
        }

        private boolean readsOne(int open) {
            int token = tokens.at(next);
            boolean name = token >= NAME && token < NAME + FACTS;
            if (name || token == NUMBER) {
                emit(name ? -1 - (token - NAME) : numbers.at(next));
                next++;
                return true;
            }
            if (open >= MOST_OPEN) return false;
            if (!passes('-')) return passes('(') && readsEither(open + 1) && passes(')');
            if (!readsOne(open + 1)) return false;
            emit(DO_NEGATE);
            return true;
        }
    }

    /** The TEXTS, as doings behind what they are done to: those of take, then those of keep. */
    private static final class Texts {
        private final Row codes = new Row(MOST_TEXTS * MOST_TAPE);
        private final Row lengths = new Row(MOST_TEXTS);
        private final Row takeLengths = new Row(MOST_TEXTS);
        private final Row stack = new Row(MOST_TAPE);
        private int height = 0;
        private int kept = 0;

        int keep(Reader reader) {
            int text = kept;
            for (int i = 0; i < reader.length; i++) codes.put(text * MOST_TAPE + i, reader.code.at(i));
            lengths.put(text, reader.length);
            takeLengths.put(text, reader.takeLength);
            kept++;
            return text;
        }

        int reckon(int text, int part, Row facts) {
            int from = part == TAKE_PART ? 0 : takeLengths.at(text);
            int to = part == TAKE_PART ? takeLengths.at(text) : lengths.at(text);
            height = 0;
            for (int i = from; i < to; i++) {
                int doing = codes.at(text * MOST_TAPE + i);
                if (doing >= 0) push(doing);
                else if (doing >= -FACTS) push(facts.at(-1 - doing));
                else if (doing == DO_NOT) push(pop() == 0 ? 1 : 0);
                else if (doing == DO_NEGATE) push(-pop());
                else joinTwo(doing);
            }
            return pop();
        }

        private void joinTwo(int doing) {
            int right = pop();
            int left = pop();
            switch (doing) {
                case DO_OR: push(left != 0 || right != 0 ? 1 : 0); break;
                case DO_AND: push(left != 0 && right != 0 ? 1 : 0); break;
                case DO_LESS: push(left < right ? 1 : 0); break;
                case DO_EQUAL: push(left == right ? 1 : 0); break;
                case DO_ADD: push(left + right); break;
                case DO_SUBTRACT: push(left - right); break;
                default: push(left * right); break;
            }
        }

        private void push(int number) {
            stack.put(height, number);
            height++;
        }

        private int pop() {
            if (height <= 0) return 0;
            height--;
            return stack.at(height);
        }
    }

    /** The STREETS, which TELLING each follows, and what THE RULE says of it in the YEAR that begins. */
    private static final class Streets {
        private final Row follows = new Row(STREETS);
        private final Row takes = new Row(STREETS);
        private final Row keeps = new Row(STREETS);
        private final Row then = new Row(STREETS);

        Streets() {
            follows.fill(NONE);
        }

        void goBy() {
            for (int s = 0; s < STREETS; s++) then.put(s, followedNext(s));
            for (int s = 0; s < STREETS; s++) follows.put(s, then.at(s));
        }

        int howManyFollow() {
            int many = 0;
            for (int s = 0; s < STREETS; s++) {
                if (follows.at(s) != NONE) many++;
            }
            return many;
        }

        private int followedNext(int street) {
            if (keeps.at(street) == 0) return NONE;
            // The lesser side is asked first and the other one must be above it: so of like ones it is the lesser.
            int best = better(street, (street + STREETS - 1) % STREETS);
            best = better(best, (street + 1) % STREETS);
            return follows.at(best);
        }

        private int better(int best, int neighbour) {
            boolean above = follows.at(neighbour) != NONE && takes.at(neighbour) > takes.at(best);
            return above ? neighbour : best;
        }
    }

    /** The SHEETS, in one row; each has room for the most items. */
    private static final class Sheets {
        private final Row items = new Row(SHEETS * MOST_ITEMS);
        private final Row sorts = new Row(SHEETS);
        private final Row sizes = new Row(SHEETS);

        Sheets() {
            sorts.fill(MISSING);
        }

        boolean isMissing(int sheet) {
            return sorts.at(sheet) == MISSING;
        }

        void become(int sheet, int sort, int size) {
            sorts.put(sheet, sort);
            sizes.put(sheet, size);
            for (int i = 0; i < MOST_ITEMS; i++) items.put(spot(sheet, i), 0);
        }

        boolean reaches(int sheet, int from, int n) {
            return from >= 0 && n >= 0 && from <= sizes.at(sheet) - n;
        }

        int read(int sheet, int i) {
            return items.at(spot(sheet, i));
        }

        void write(int sheet, int i, int v) {
            int sort = sorts.at(sheet);
            int narrowed = sort == BYTES ? (byte) v : sort == SHORTS ? (short) v : v;
            items.put(spot(sheet, i), narrowed);
        }

        void carry(int sheet, int i, int other, int j, int n) {
            items.move(spot(sheet, i), spot(other, j), n);
        }

        private static int spot(int sheet, int i) {
            return sheet * MOST_ITEMS + i;
        }
    }
}
