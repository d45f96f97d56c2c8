/**
 * Two processions that cross in one street: members in two rows, days told as
 * small texts, who meets whom and where, orders, sights, chances and years.
 */
public final class WovenRows {
    public static final int NONE = -6, UNKNOWN = -1, OUTSIDE = -2, STATE = -3, FULL = -4, NO = -5;
    public static final long LOST = -1000000000000000000L;

    private static final int MEMBERS = 10, CELLS = 17, LAST_CELL = 16, PLACES = 6;
    private static final int ROWS = 2, DOWN = 0, UP = 1, HOME = 2;
    private static final int KEYS = 12, SILENT = 12;
    private static final int MOST_WIDTH = 15, MOST_WIDE = 30, MOST_DELAY = 20;
    private static final int MOST_SIGNS = 60, MOST_BELLS = 99, MOST_RULES = 10, MOST_SIGHTS = 8;
    private static final int LAST_BEAT = 60, LATES = 10;
    private static final int TENTHS = 10, MOST_CHANCED = 12;
    private static final int LAST_SEED = 9999, MOST_DRAWS = 99;
    private static final int IMAGES = 2;

    private final Town town = new Town();
    /** A copy of the town in which a call may try what it is asked about. */
    private final Town trial = new Town();
    private final Town firstImage = new Town();
    private final Town secondImage = new Town();
    private int keptImages = 0;
    private final Pad pad = new Pad();
    private final Rehearsal rehearsal = new Rehearsal();
    private final Meetings meetings = new Meetings();
    private final Orders arranging = new Orders();
    private final Watch watch = new Watch();
    private final Fewest fewest = new Fewest();
    private final Odds odds = new Odds();

    public WovenRows() {
    }

    // ---- 1 members, the street, days

    public int member(int member, int width, int key) {
        if (!within(member, 0, MEMBERS - 1)) {
            return UNKNOWN;
        }
        if (!within(width, 1, MOST_WIDTH) || !within(key, 0, SILENT)) {
            return OUTSIDE;
        }
        int was = at(town.widths, member);
        put(town.widths, member, width);
        put(town.keys, member, key);
        return was;
    }

    public int wide(int cell, int v) {
        if (!within(cell, 0, LAST_CELL)) {
            return UNKNOWN;
        }
        if (!within(v, 1, MOST_WIDE)) {
            return OUTSIDE;
        }
        int was = at(town.cells, cell);
        put(town.cells, cell, v);
        return was;
    }

    public int delay(int row, int v) {
        if (!isRow(row) || !within(v, 0, MOST_DELAY)) {
            return OUTSIDE;
        }
        int was = at(town.delays, row);
        put(town.delays, row, v);
        return was;
    }

    public int say(int sign) {
        if (!within(sign, 33, 126)) {
            return OUTSIDE;
        }
        if (pad.count >= MOST_SIGNS) {
            return FULL;
        }
        pad.write(sign);
        return pad.count;
    }

    public int wipe() {
        return pad.empty();
    }

    public int fault() {
        return pad.firstFault();
    }

    // ---- 2 days

    public int judge(int what) {
        if (!within(what, 0, 1)) {
            return OUTSIDE;
        }
        if (pad.firstFault() != NONE) {
            return NO;
        }
        rehearsal.play(pad, town, trial);
        if (rehearsal.why == 0) {
            return NONE;
        }
        return what == 0 ? rehearsal.acts : rehearsal.why;
    }

    public int done() {
        if (!daysCanBe()) {
            return NO;
        }
        town.rows.takeFrom(trial.rows);
        pad.empty();
        return rehearsal.acts;
    }

    public int place(int row, int i) {
        if (!isRow(row) || !within(i, 0, PLACES - 1)) {
            return OUTSIDE;
        }
        return daysCanBe() ? trial.rows.whoIsAt(row, i) : NO;
    }

    public int of(int member, int what) {
        if (!within(member, 0, MEMBERS - 1)) {
            return UNKNOWN;
        }
        if (!within(what, 0, 1)) {
            return OUTSIDE;
        }
        if (!daysCanBe()) {
            return NO;
        }
        return what == 0 ? at(trial.rows.rowOf, member) : at(trial.rows.placeOf, member);
    }

    public int bells() {
        return daysCanBe() ? trial.rows.rung : NO;
    }

    // ---- 3 meetings, orders

    public int meets(int what) {
        if (!within(what, 0, 3)) {
            return OUTSIDE;
        }
        meetings.count(town);
        switch (what) {
            case 0:
                return meetings.twos;
            case 1:
                return meetings.clashes;
            case 2:
                return meetings.first;
            default:
                return meetings.where;
        }
    }

    public int runs() {
        return Math.max(town.emptyFrom(DOWN), town.emptyFrom(UP));
    }

    public int order(int row, int what) {
        if (!isRow(row) || !within(what, 0, 1)) {
            return OUTSIDE;
        }
        arranging.gather(town.rows, row);
        arranging.countClashes(town, row);
        return what == 0 ? arranging.answerForAll() : arranging.firstOfFewest();
    }

    public int start(int what) {
        if (!within(what, 0, 1)) {
            return OUTSIDE;
        }
        trial.takeFrom(town);
        fewest.begin();
        for (int beats = 0; beats <= MOST_DELAY; beats++) {
            put(trial.delays, DOWN, beats);
            meetings.count(trial);
            fewest.offer(beats, meetings.clashes);
        }
        return what == 0 ? fewest.count : fewest.by;
    }

    public int door(int v, int what) {
        if (!within(v, 0, MOST_WIDE) || !within(what, 0, 1)) {
            return OUTSIDE;
        }
        trial.takeFrom(town);
        fewest.begin();
        for (int cell = 0; cell < CELLS; cell++) {
            int was = at(trial.cells, cell);
            put(trial.cells, cell, was + v);
            meetings.count(trial);
            put(trial.cells, cell, was);
            fewest.offer(cell, meetings.clashes);
        }
        return what == 0 ? fewest.count : fewest.by;
    }

    public int grate(int what) {
        if (!within(what, 0, 2)) {
            return OUTSIDE;
        }
        if (what == 0) {
            return meetings.grating(town, 0);
        }
        fewest.begin();
        for (int more = 0; more < KEYS; more++) {
            fewest.offer(more, meetings.grating(town, more));
        }
        return what == 1 ? fewest.by : fewest.count;
    }

    public int rule(int first, int second) {
        if (!within(first, 0, MEMBERS - 1) || !within(second, 0, MEMBERS - 1) || first == second) {
            return UNKNOWN;
        }
        if (town.rules.count >= MOST_RULES) {
            return FULL;
        }
        town.rules.append(first, second);
        return town.rules.count;
    }

    public int unrule() {
        return town.rules.empty();
    }

    public int orders(int row, int what) {
        if (!isRow(row) || !within(what, 0, 1)) {
            return OUTSIDE;
        }
        arranging.gather(town.rows, row);
        arranging.countOrders(town.rules);
        return what == 0 ? arranging.answerForAll() : arranging.firstByRules(town.rules);
    }

    // ---- 4 who it was, chances

    public int seen(int cell, int beat) {
        if (!within(cell, 0, LAST_CELL)) {
            return UNKNOWN;
        }
        if (!within(beat, 0, LAST_BEAT)) {
            return OUTSIDE;
        }
        if (town.sights.count >= MOST_SIGHTS) {
            return FULL;
        }
        town.sights.append(cell, beat);
        return town.sights.count;
    }

    public int forget() {
        return town.sights.empty();
    }

    public int who(int what) {
        if (!within(what, 0, 2)) {
            return OUTSIDE;
        }
        watch.fit(town);
        switch (what) {
            case 0:
                return watch.count;
            case 1:
                return watch.memberBits;
            default:
                return watch.lateBits;
        }
    }

    public int look(int what) {
        if (!within(what, 0, 1)) {
            return OUTSIDE;
        }
        watch.fit(town);
        if (watch.count == 0) {
            return NONE;
        }
        fewest.begin();
        for (int beat = 0; beat <= LAST_BEAT; beat++) {
            fewest.offer(beat, watch.mostLeftAt(beat));
        }
        return what == 0 ? fewest.by : fewest.count;
    }

    public long chance(int t, int k, int part) {
        if (!within(t, 0, TENTHS) || !within(k, 0, MOST_CHANCED) || !within(part, 0, 1)) {
            return LOST + OUTSIDE;
        }
        meetings.count(town);
        if (meetings.clashes > MOST_CHANCED) {
            return LOST + STATE;
        }
        odds.reckon(meetings.clashes, t, k);
        return part == 0 ? odds.upper : odds.lower;
    }

    public int year(int seed, int m, int what) {
        if (!within(seed, 0, LAST_SEED) || !within(m, 1, MOST_DRAWS) || !within(what, 0, 2)) {
            return OUTSIDE;
        }
        trial.takeFrom(town);
        trial.rows.drawYear(seed, m);
        if (what == 0) {
            return trial.rows.lengthOf(DOWN) + trial.rows.lengthOf(UP);
        }
        if (what == 2) {
            return trial.rows.rung;
        }
        meetings.count(trial);
        return meetings.clashes;
    }

    public int image(int n) {
        if (!within(n, 0, IMAGES - 1)) {
            return OUTSIDE;
        }
        imageOf(n).takeFrom(town);
        keptImages |= 1 << n;
        return 1;
    }

    public int restore(int n) {
        if (!within(n, 0, IMAGES - 1)) {
            return OUTSIDE;
        }
        if ((keptImages & 1 << n) == 0) {
            return STATE;
        }
        town.takeFrom(imageOf(n));
        return 1;
    }

    public int told(int what) {
        if (within(what, 0, 5)) {
            return toldCount(what);
        }
        if (within(what, 6, 7)) {
            return at(town.delays, what - 6);
        }
        if (within(what, 20, 20 + LAST_CELL)) {
            return at(town.cells, what - 20);
        }
        if (within(what, 40, 40 + MEMBERS - 1)) {
            return at(town.widths, what - 40);
        }
        if (within(what, 60, 60 + MEMBERS - 1)) {
            return at(town.keys, what - 60);
        }
        if (within(what, 80, 80 + PLACES - 1)) {
            return town.rows.whoIsAt(DOWN, what - 80);
        }
        if (within(what, 90, 90 + PLACES - 1)) {
            return town.rows.whoIsAt(UP, what - 90);
        }
        return OUTSIDE;
    }

    private int toldCount(int what) {
        switch (what) {
            case 0:
                return pad.count;
            case 1:
                return town.rows.lengthOf(DOWN);
            case 2:
                return town.rows.lengthOf(UP);
            case 3:
                return town.rows.rung;
            case 4:
                return town.rules.count;
            default:
                return town.sights.count;
        }
    }

    private Town imageOf(int n) {
        return n == 0 ? firstImage : secondImage;
    }

    /** Whether the days have no fault and every act can be; the trial town is then as it is behind them. */
    private boolean daysCanBe() {
        if (pad.firstFault() != NONE) {
            return false;
        }
        rehearsal.play(pad, town, trial);
        return rehearsal.why == 0;
    }

    private static boolean within(int n, int least, int most) {
        return n >= least && n <= most;
    }

    private static boolean isRow(int row) {
        return row == DOWN || row == UP;
    }

    /** What stands at i of the list, looked at before it is read. */
    private static int at(int[] list, int i) {
        return list != null && i >= 0 && i < list.length ? list[i] : 0;
    }

    private static void put(int[] list, int i, int v) {
        if (list != null && i >= 0 && i < list.length) {
            list[i] = v;
        }
    }

    private static void fill(int[] list, int v) {
        if (list == null) {
            return;
        }
        for (int i = 0; i < list.length; i++) {
            list[i] = v;
        }
    }

    private static void copy(int[] from, int[] to) {
        if (from == null || to == null) {
            return;
        }
        for (int i = 0; i < from.length && i < to.length; i++) {
            to[i] = from[i];
        }
    }

    /** Who is in which row and place, and the bells. */
    private static final class Rows {
        private static final char JOIN_DOWN = 'd', JOIN_UP = 'u', GO_HOME = '-', SWAP = 'x', BELL = '!';
        private static final char[] DRAWN =
            {JOIN_DOWN, JOIN_DOWN, JOIN_UP, JOIN_UP, GO_HOME, GO_HOME, SWAP, BELL};

        private final int[] rowOf = new int[MEMBERS];
        private final int[] placeOf = new int[MEMBERS];
        private int rung = 0;

        Rows() {
            fill(rowOf, HOME);
            fill(placeOf, NONE);
        }

        void takeFrom(Rows other) {
            if (other == null) {
                return;
            }
            copy(other.rowOf, rowOf);
            copy(other.placeOf, placeOf);
            rung = other.rung;
        }

        int lengthOf(int row) {
            int length = 0;
            for (int member = 0; member < rowOf.length; member++) {
                if (rowOf[member] == row) {
                    length++;
                }
            }
            return length;
        }

        int whoIsAt(int row, int i) {
            for (int member = 0; member < MEMBERS; member++) {
                if (at(rowOf, member) == row && at(placeOf, member) == i) {
                    return member;
                }
            }
            return NONE;
        }

        /** Carries the act out if it can be; else the least reason why it can not. */
        int attempt(int kind, int member, int other) {
            int why = reasonAgainst(kind, member, other);
            if (why == 0) {
                carryOut(kind, member, other);
            }
            return why;
        }

        private int reasonAgainst(int kind, int member, int other) {
            switch (kind) {
                case JOIN_DOWN:
                    return reasonAgainstJoining(member, DOWN);
                case JOIN_UP:
                    return reasonAgainstJoining(member, UP);
                case GO_HOME:
                    return at(rowOf, member) == HOME ? 1 : 0;
                case SWAP:
                    if (at(rowOf, member) == HOME || at(rowOf, other) == HOME) {
                        return 1;
                    }
                    return member == other ? 3 : 0;
                default:
                    return rung >= MOST_BELLS ? 4 : 0;
            }
        }

        private int reasonAgainstJoining(int member, int row) {
            if (at(rowOf, member) != HOME) {
                return 1;
            }
            return lengthOf(row) >= PLACES ? 2 : 0;
        }

        private void carryOut(int kind, int member, int other) {
            switch (kind) {
                case JOIN_DOWN:
                    join(member, DOWN);
                    break;
                case JOIN_UP:
                    join(member, UP);
                    break;
                case GO_HOME:
                    leave(member);
                    break;
                case SWAP:
                    swap(rowOf, member, other);
                    swap(placeOf, member, other);
                    break;
                default:
                    rung++;
                    break;
            }
        }

        private void join(int member, int row) {
            // The length is asked first: it must not count the one who joins.
            put(placeOf, member, lengthOf(row));
            put(rowOf, member, row);
        }

        private void leave(int member) {
            int row = at(rowOf, member);
            int left = at(placeOf, member);
            put(rowOf, member, HOME);
            put(placeOf, member, NONE);
            for (int other = 0; other < MEMBERS; other++) {
                int i = at(placeOf, other);
                if (at(rowOf, other) == row && i > left) {
                    put(placeOf, other, i - 1);
                }
            }
        }

        private static void swap(int[] list, int i, int j) {
            int kept = at(list, i);
            put(list, i, at(list, j));
            put(list, j, kept);
        }

        void drawYear(int seed, int draws) {
            int x = seed;
            for (int draw = 0; draw < draws; draw++) {
                x = (75 * x + 74) % 65537;
                attempt(drawnKind(x / 10 % 8), x % 10, x / 80 % 10);
            }
        }

        private static int drawnKind(int by) {
            return by >= 0 && by < DRAWN.length ? DRAWN[by] : BELL;
        }
    }

    /** Twos of numbers, as many as the limit at most. */
    private static final class Pairs {
        private final int[] firsts;
        private final int[] seconds;
        private int count = 0;

        Pairs(int limit) {
            firsts = new int[Math.max(limit, 0)];
            seconds = new int[Math.max(limit, 0)];
        }

        void takeFrom(Pairs other) {
            if (other == null) {
                return;
            }
            copy(other.firsts, firsts);
            copy(other.seconds, seconds);
            count = other.count;
        }

        void append(int first, int second) {
            if (count < firsts.length) {
                put(firsts, count, first);
                put(seconds, count, second);
                count++;
            }
        }

        int empty() {
            int had = count;
            count = 0;
            return had;
        }
    }

    /** Of all that is offered, from the least on, the first by which there are fewest. */
    private static final class Fewest {
        private int by = NONE;
        private int count = 0;

        void begin() {
            by = NONE;
            count = 0;
        }

        void offer(int one, int itsCount) {
            if (by == NONE || itsCount < count) {
                by = one;
                count = itsCount;
            }
        }
    }

    /** The signs of the days that are told. */
    private static final class Pad {
        private static final int WANTS_ACT = 0, WANTS_VERB = 1, WANTS_OTHER = 2, BROKEN = 3;

        private final int[] signs = new int[MOST_SIGNS];
        private int count = 0;

        void write(int sign) {
            if (count < signs.length) {
                put(signs, count, sign);
                count++;
            }
        }

        int empty() {
            int had = count;
            count = 0;
            return had;
        }

        int firstFault() {
            int wants = WANTS_ACT;
            for (int i = 0; i < count; i++) {
                wants = wantsAfter(wants, at(signs, i));
                if (wants == BROKEN) {
                    return i;
                }
            }
            return wants == WANTS_ACT ? NONE : count;
        }

        private static int wantsAfter(int wants, int sign) {
            switch (wants) {
                case WANTS_ACT:
                    if (sign == Rows.BELL) {
                        return WANTS_ACT;
                    }
                    return isLetter(sign) ? WANTS_VERB : BROKEN;
                case WANTS_VERB:
                    if (sign == Rows.SWAP) {
                        return WANTS_OTHER;
                    }
                    return endsAsVerb(sign) ? WANTS_ACT : BROKEN;
                default:
                    return isLetter(sign) ? WANTS_ACT : BROKEN;
            }
        }

        private static boolean isLetter(int sign) {
            return sign >= 'A' && sign < 'A' + MEMBERS;
        }

        private static boolean endsAsVerb(int sign) {
            return sign == Rows.JOIN_DOWN || sign == Rows.JOIN_UP || sign == Rows.GO_HOME;
        }

        /** The kind of the act whose last sign stands at i, in days without a fault; 0 if none ends there. */
        int kindEndingAt(int i) {
            int sign = at(signs, i);
            if (isLetter(sign)) {
                return at(signs, i - 1) == Rows.SWAP ? Rows.SWAP : 0;
            }
            return sign == Rows.SWAP ? 0 : sign;
        }

        int memberAt(int i) {
            return at(signs, i) - 'A';
        }
    }

    /** Days as they are played till the first act that can not be. */
    private static final class Rehearsal {
        private int acts = 0;
        private int why = 0;

        /** Plays days without a fault in the trial town, which first becomes as the town is. */
        void play(Pad pad, Town town, Town trial) {
            acts = 0;
            why = 0;
            if (pad == null || town == null || trial == null) {
                return;
            }
            trial.takeFrom(town);
            for (int i = 0; i < pad.count; i++) {
                int kind = pad.kindEndingAt(i);
                if (kind != 0) {
                    int subject = kind == Rows.SWAP ? i - 2 : i - 1;
                    why = trial.rows.attempt(kind, pad.memberAt(subject), pad.memberAt(i));
                    if (why != 0) {
                        return;
                    }
                    acts++;
                }
            }
        }
    }

    /** All but the pad: what an image keeps. */
    private static final class Town {
        private final int[] widths = new int[MEMBERS];
        private final int[] keys = new int[MEMBERS];
        private final int[] cells = new int[CELLS];
        private final int[] delays = new int[ROWS];
        private final Rows rows = new Rows();
        private final Pairs rules = new Pairs(MOST_RULES);
        private final Pairs sights = new Pairs(MOST_SIGHTS);

        Town() {
            fill(widths, 5);
            fill(keys, SILENT);
            fill(cells, 12);
        }

        void takeFrom(Town other) {
            if (other == null) {
                return;
            }
            copy(other.widths, widths);
            copy(other.keys, keys);
            copy(other.cells, cells);
            copy(other.delays, delays);
            rows.takeFrom(other.rows);
            rules.takeFrom(other.rules);
            sights.takeFrom(other.sights);
        }

        /** The beat at which a member of a row sets out. */
        int startOf(int member) {
            return at(delays, at(rows.rowOf, member)) + at(rows.placeOf, member);
        }

        /** The beat at which the last of a row leaves; 0 if nobody is in it. */
        int emptyFrom(int row) {
            int length = rows.lengthOf(row);
            return length == 0 ? 0 : at(delays, row) + length - 1 + CELLS;
        }

        /**
         * Where two meet who set out at these beats: twice the cell, or between
         * two cells twice the lesser and 1; NONE if they do not meet. One goes a
         * cell down and the other a cell up a beat, so a beat between their
         * starts moves the spot by half a cell.
         */
        static int spotOf(int startDown, int startUp) {
            int spot = LAST_CELL + startUp - startDown;
            return within(spot, 0, 2 * LAST_CELL) ? spot : NONE;
        }

        boolean clash(int spot, int member, int other) {
            if (spot == NONE) {
                return false;
            }
            int narrowest = Math.min(at(cells, spot / 2), at(cells, (spot + 1) / 2));
            return narrowest < at(widths, member) + at(widths, other);
        }

        /** With how many of the other row a member clashes, if it is in this place of the row. */
        int clashesIn(int row, int i, int member) {
            int begins = at(delays, row) + i;
            int count = 0;
            for (int other = 0; other < MEMBERS; other++) {
                if (at(rows.rowOf, other) != UP - row) {
                    continue;
                }
                int spot = row == DOWN ? spotOf(begins, startOf(other)) : spotOf(startOf(other), begins);
                if (clash(spot, member, other)) {
                    count++;
                }
            }
            return count;
        }
    }

    /** What comes of the meetings of a town. */
    private static final class Meetings {
        private int twos = 0;
        private int clashes = 0;
        private int first = NONE;
        private int where = NONE;
        private int firstTurn = 0;

        void count(Town town) {
            twos = 0;
            clashes = 0;
            first = NONE;
            where = NONE;
            if (town == null) {
                return;
            }
            for (int down = 0; down < MEMBERS; down++) {
                if (at(town.rows.rowOf, down) == DOWN) {
                    countOf(town, down);
                }
            }
        }

        private void countOf(Town town, int down) {
            int begins = town.startOf(down);
            for (int up = 0; up < MEMBERS; up++) {
                if (at(town.rows.rowOf, up) != UP) {
                    continue;
                }
                int spot = Town.spotOf(begins, town.startOf(up));
                if (spot != NONE) {
                    twos++;
                }
                if (town.clash(spot, down, up)) {
                    // Two meet the earlier the less their starts sum up to.
                    int turn = (begins + town.startOf(up)) * PLACES + at(town.rows.placeOf, down);
                    noteClash(10 * down + up, spot, turn);
                }
            }
        }

        private void noteClash(int two, int spot, int turn) {
            if (clashes == 0 || turn < firstTurn) {
                first = two;
                where = spot;
                firstTurn = turn;
            }
            clashes++;
        }

        /** How many twos grate, if the keys of the row that goes up are so many more. */
        int grating(Town town, int more) {
            int count = 0;
            if (town == null) {
                return count;
            }
            for (int down = 0; down < MEMBERS; down++) {
                if (at(town.rows.rowOf, down) == DOWN && at(town.keys, down) != SILENT) {
                    count += gratingWith(town, down, more);
                }
            }
            return count;
        }

        private static int gratingWith(Town town, int down, int more) {
            int count = 0;
            for (int up = 0; up < MEMBERS; up++) {
                if (at(town.rows.rowOf, up) != UP || at(town.keys, up) == SILENT) {
                    continue;
                }
                if (Town.spotOf(town.startOf(down), town.startOf(up)) == NONE) {
                    continue;
                }
                int apart = Math.abs(at(town.keys, down) - (at(town.keys, up) + more) % KEYS);
                if (apart == 1 || apart == 6 || apart == 11) {
                    count++;
                }
            }
            return count;
        }
    }

    /**
     * The members of one row in every order. A set of them (bits, the least
     * member the lowest) stands for all orders in which just these hold the
     * last places; what holds for a set is made from the sets without one.
     */
    private static final class Orders {
        private final int[] crowd = new int[PLACES];
        private final int[] costs = new int[PLACES * PLACES];
        private final int[] answers = new int[1 << PLACES];
        private int size = 0;

        void gather(Rows rows, int row) {
            size = 0;
            if (rows == null) {
                return;
            }
            for (int member = 0; member < MEMBERS; member++) {
                if (at(rows.rowOf, member) == row && size < PLACES) {
                    put(crowd, size, member);
                    size++;
                }
            }
        }

        private int all() {
            return (1 << size) - 1;
        }

        int answerForAll() {
            return at(answers, all());
        }

        /** For every set the fewest clashes of those in it. */
        void countClashes(Town town, int row) {
            if (town == null) {
                return;
            }
            for (int one = 0; one < size; one++) {
                for (int i = 0; i < size; i++) {
                    put(costs, one * PLACES + i, town.clashesIn(row, i, at(crowd, one)));
                }
            }
            int all = all();
            put(answers, 0, 0);
            for (int set = 1; set <= all; set++) {
                put(answers, set, fewestOf(set));
            }
        }

        private int fewestOf(int set) {
            int fewest = NONE;
            for (int one = 0; one < size; one++) {
                if (holds(set, one)) {
                    int clashes = ledBy(set, one);
                    fewest = fewest == NONE ? clashes : Math.min(fewest, clashes);
                }
            }
            return fewest;
        }

        /** The fewest clashes of a set, if this one of it goes ahead of the others. */
        private int ledBy(int set, int one) {
            int i = size - Integer.bitCount(set);
            return at(costs, one * PLACES + i) + at(answers, without(set, one));
        }

        int firstOfFewest() {
            int set = all();
            int number = 0;
            for (int i = 0; i < size; i++) {
                int leader = 0;
                for (int one = size - 1; one >= 0; one--) {
                    if (holds(set, one) && ledBy(set, one) == at(answers, set)) {
                        leader = one;
                    }
                }
                number = 10 * number + at(crowd, leader);
                set = without(set, leader);
            }
            return number;
        }

        /** For every set how many orders of it there are by which the rules hold. */
        void countOrders(Pairs rules) {
            int all = all();
            put(answers, 0, 1);
            for (int set = 1; set <= all; set++) {
                int count = 0;
                for (int one = 0; one < size; one++) {
                    if (holds(set, one) && mayLead(rules, set, one)) {
                        count += at(answers, without(set, one));
                    }
                }
                put(answers, set, count);
            }
        }

        private boolean mayLead(Pairs rules, int set, int one) {
            if (rules == null) {
                return true;
            }
            for (int i = 0; i < rules.count; i++) {
                if (at(rules.seconds, i) == at(crowd, one) && holdsMember(set, at(rules.firsts, i))) {
                    return false;
                }
            }
            return true;
        }

        int firstByRules(Pairs rules) {
            if (answerForAll() == 0) {
                return NONE;
            }
            int set = all();
            int number = 0;
            for (int i = 0; i < size; i++) {
                int leader = 0;
                for (int one = size - 1; one >= 0; one--) {
                    // Where the whole row has an order, so has whatever is left of it.
                    if (holds(set, one) && mayLead(rules, set, one)) {
                        leader = one;
                    }
                }
                number = 10 * number + at(crowd, leader);
                set = without(set, leader);
            }
            return number;
        }

        private boolean holdsMember(int set, int member) {
            for (int one = 0; one < size; one++) {
                if (holds(set, one) && at(crowd, one) == member) {
                    return true;
                }
            }
            return false;
        }

        private static boolean holds(int set, int one) {
            return (set & 1 << one) != 0;
        }

        private static int without(int set, int one) {
            return set & ~(1 << one);
        }
    }

    /** The twos of a member and how late by which all sights are so. */
    private static final class Watch {
        private static final int NOT_IN_STREET = CELLS;

        private final int[] rowOf = new int[MEMBERS * LATES];
        private final int[] startOf = new int[MEMBERS * LATES];
        private final int[] tally = new int[CELLS + 1];
        private int count = 0;
        private int memberBits = 0;
        private int lateBits = 0;

        void fit(Town town) {
            count = 0;
            memberBits = 0;
            lateBits = 0;
            if (town == null) {
                return;
            }
            for (int member = 0; member < MEMBERS; member++) {
                int row = at(town.rows.rowOf, member);
                for (int late = 0; row != HOME && late < LATES; late++) {
                    int begins = town.startOf(member) + late;
                    if (allAreSo(town.sights, row, begins)) {
                        put(rowOf, count, row);
                        put(startOf, count, begins);
                        count++;
                        memberBits |= 1 << member;
                        lateBits |= 1 << late;
                    }
                }
            }
        }

        private static boolean allAreSo(Pairs sights, int row, int begins) {
            if (sights == null) {
                return true;
            }
            for (int i = 0; i < sights.count; i++) {
                if (cellAt(row, begins, at(sights.seconds, i)) != at(sights.firsts, i)) {
                    return false;
                }
            }
            return true;
        }

        private static int cellAt(int row, int begins, int beat) {
            int gone = beat - begins;
            if (!within(gone, 0, LAST_CELL)) {
                return NOT_IN_STREET;
            }
            return row == DOWN ? gone : LAST_CELL - gone;
        }

        /** How many twos are left at the most, wherever it is at this beat. */
        int mostLeftAt(int beat) {
            fill(tally, 0);
            int most = 0;
            for (int i = 0; i < count; i++) {
                int cell = cellAt(at(rowOf, i), at(startOf, i), beat);
                int left = at(tally, cell) + 1;
                put(tally, cell, left);
                most = Math.max(most, left);
            }
            return most;
        }
    }

    /** A chance as a fraction in lowest terms. */
    private static final class Odds {
        private final long[] weights = new long[MOST_CHANCED + 1];
        private long upper = 0;
        private long lower = 1;

        /** That of so many twos, each of which gets by with so many tenths, so many at least do not. */
        void reckon(int twos, int tenths, int least) {
            weigh(twos, tenths);
            long sum = 0;
            for (int n = 0; n < weights.length; n++) {
                if (n >= least) {
                    sum += weights[n];
                }
            }
            long whole = 1;
            for (int i = 0; i < twos; i++) {
                whole *= TENTHS;
            }
            long common = commonDivisor(whole, sum);
            upper = common > 0 ? sum / common : sum;
            lower = common > 0 ? whole / common : whole;
        }

        /** Fills in, for every number of twos that do not get by, in how many ways of all it comes. */
        private void weigh(int twos, int tenths) {
            for (int n = 0; n < weights.length; n++) {
                weights[n] = n == 0 ? 1 : 0;
            }
            for (int two = 0; two < twos; two++) {
                for (int n = weights.length - 1; n >= 0; n--) {
                    long fewer = n > 0 ? weights[n - 1] : 0;
                    weights[n] = weights[n] * tenths + fewer * (TENTHS - tenths);
                }
            }
        }

        private static long commonDivisor(long a, long b) {
            long divisor = a;
            long rest = b;
            // Euclid's steps halve the rest every other time: far fewer than this for longs.
            for (int step = 0; step < 200 && rest != 0; step++) {
                long next = divisor % rest;
                divisor = rest;
                rest = next;
            }
            return divisor;
        }
    }
}
