import java.util.NoSuchElementException;

/**
 * People whose parts cross by a boat, told as a text: see README.md for how to use it.
 * The numbers of people, sorts, deeds, sendings and wants all run from 0 on.
 */
public final class PartsFerry {
    public static final int NONE = -1;

    /** What a call answers that is asked for more than there is, but rightly. */
    private static final int NOT_SO_MANY = -2;

    private static final int MOST_BYTES = 700;
    private static final int MOST_PEOPLE = 5;
    private static final int MOST_SORTS = 5;
    private static final int MOST_DEEDS = 5;
    private static final int MOST_SENDINGS = 12;
    private static final int MOST_WANTS = 8;
    private static final int MOST_PENCE = 99999;
    private static final int MOST_DAYS = 99;
    private static final int LAST_DAY = 9900;
    private static final int MOST_SEEN = 24;
    private static final int MOST_UNDONE = 20;
    private static final int MOST_ROOM = 30;

    /** The faults of a text. */
    private static final int WRONG_TOKEN = 1;
    private static final int TOO_MUCH = 2;
    private static final int TOLD_ALREADY = 3;
    private static final int NOT_TOLD = 4;

    /** The kinds of what has a name. */
    private static final int PEOPLE = 0;
    private static final int SORTS = 1;
    private static final int DEEDS = 2;

    /** The columns of a row of a sending. */
    private static final int SENDING_COLUMNS = 4;
    private static final int SENDING_MAN = 0;
    private static final int SENDING_SORT = 1;
    private static final int SENDING_DAY = 2;
    private static final int SENDING_STATE = 3;

    private static final int TO_GO = 0;
    private static final int GONE = 1;
    private static final int TAKEN_BACK = 2;

    /** The columns of a row of a want. */
    private static final int WANT_COLUMNS = 5;
    private static final int WANT_MAN = 0;
    private static final int WANT_DEED = 1;
    private static final int WANT_PORT = 2;
    private static final int WANT_DAY = 3;
    private static final int WANT_WORTH = 4;

    private static final int NOT_YET = 0;
    private static final int MET = 1;
    private static final int MISSED = 2;

    private static final int FARE = 0;
    private static final int GAIN = 1;
    private static final int MIX = 2;

    /** How a day finds out whether it storms. */
    private static final int BY_NUMBERS = 0;
    private static final int AS_IT_GOES = 1;
    private static final int NO_STORMS = 2;

    /** The kinds of what can be undone. */
    private static final int SENT = 0;
    private static final int TAKEN = 1;
    private static final int SWAPPED = 2;
    private static final int LENT = 3;

    /** The operators of E; OPEN stands for '(' among those that wait. */
    private static final int ADD = 0;
    private static final int SUBTRACT = 1;
    private static final int TIMES = 2;
    private static final int DIVIDE = 3;
    private static final int LESS = 4;
    private static final int AT_MOST = 5;
    private static final int EQUAL = 6;
    private static final int UNEQUAL = 7;
    private static final int AT_LEAST = 8;
    private static final int MORE = 9;
    private static final int AND = 10;
    private static final int OR = 11;
    private static final int NOT = 12;
    private static final int OPEN = 13;
    private static final int CLOSE = 14;
    private static final int LINE_END = 15;

    private final byte[] tape = new byte[MOST_BYTES];
    private int taped = 0;
    private Told told = new Told();
    private Told spare = new Told();
    private final Reader reader = new Reader(tape, spare);
    private int fault = 0;
    private int place = NONE;
    private final State now = new State(told);
    private final State image = new State(told);
    private boolean hasImage = false;
    /** Where days that don't really go by are played. */
    private final State trial = new State(told);
    private final Days days = new Days(now);
    private final int[] bestOfRoom = new int[MOST_ROOM + 1];
    private final Order order = new Order();
    private final Seen seen = new Seen();
    private final Log log = new Log();

    public PartsFerry() {
    }

    public int feed(int a, int b, int c, int d, int e) {
        if (taped + 20 > MOST_BYTES) {
            return NONE;
        }
        putFour(a);
        putFour(b);
        putFour(c);
        putFour(d);
        putFour(e);
        return taped;
    }

    private void putFour(int four) {
        for (int shift = 24; shift >= 0 && taped < MOST_BYTES; shift -= 8) {
            tape[taped] = (byte) (four >> shift);
            taped++;
        }
    }

    public int text(int n) {
        if (n < 0 || n > taped) {
            return NOT_SO_MANY;
        }
        boolean isRight = reader.reads(n, spare);
        taped = 0;
        fault = reader.fault;
        place = reader.place;
        if (!isRight) {
            return NONE;
        }
        Told old = told;
        told = spare;
        spare = old;
        now.begin(told);
        hasImage = false;
        seen.clear();
        log.clear();
        return reader.lines;
    }

    public int fault(int what) {
        if (what == 0) {
            return fault;
        }
        return what == 1 ? place : NONE;
    }

    public int named(int what, int letters) {
        if (what < PEOPLE || what > DEEDS) {
            return NONE;
        }
        return told.find(what, letters);
    }

    public int man(int man, int what) throws IndexOutOfBoundsException, NoSuchElementException {
        if (!isMan(man)) {
            throw new IndexOutOfBoundsException("no such person");
        }
        switch (what) {
            case 0:
                return now.pence[man];
            case 1:
                return now.sortsAt(man, 1);
            case 2:
                return now.ownSorts(man);
            case 3:
                return now.wantsOf(man, MET);
            case 4:
                return now.wantsOf(man, MISSED);
            default:
                throw new NoSuchElementException("no such what");
        }
    }

    public int sort(int sort, int what) {
        if (!isSort(sort)) {
            return NONE;
        }
        if (what == 0) {
            return told.size[sort];
        }
        return what == 1 ? told.rate[sort] : NONE;
    }

    public int deed(int deed) {
        return isDeed(deed) ? told.needed[deed] : NONE;
    }

    public int sending(int sending, int what) {
        if (!isSending(sending) || what < 0 || what >= SENDING_COLUMNS) {
            return NONE;
        }
        return now.sendingAt(sending, what);
    }

    public int want(int want, int what) {
        if (!isWant(want) || what < 0 || what > WANT_COLUMNS) {
            return NONE;
        }
        return what == WANT_COLUMNS ? now.wantState[want] : told.wantAt(want, what);
    }

    public int holds(int man, int sort) {
        return isPart(man, sort) ? now.held[man * MOST_SORTS + sort] : NONE;
    }

    public int port(int man, int sort) {
        return isPart(man, sort) ? now.lies[man * MOST_SORTS + sort] : NONE;
    }

    public int can(int man, int deed, int port) {
        if (!isTask(man, deed, port)) {
            return NONE;
        }
        return now.lacks(man, deed, port) == 0 ? 1 : 0;
    }

    public long law(int what, int man, int which) {
        days.start(now, BY_NUMBERS);
        if (what == FARE && isPart(man, which)) {
            return days.fareLaw(man, which);
        }
        if (what == GAIN && isMan(man) && isWant(which)) {
            return days.gainLaw(man, which);
        }
        if (what == MIX && isSort(which)) {
            return days.mixLaw(which);
        }
        return Laws.ERROR;
    }

    public int send(int man, int sort, int day) {
        if (!isPart(man, sort) || day < now.day || day > 9999 || now.sendings >= MOST_SENDINGS) {
            return NONE;
        }
        now.putSending(man, sort, day);
        log.note(SENT, 0, 0, 0);
        return now.sendings - 1;
    }

    public boolean take(int sending) {
        if (!isSending(sending) || now.sendingAt(sending, SENDING_STATE) != TO_GO) {
            return false;
        }
        now.setSending(sending, SENDING_STATE, TAKEN_BACK);
        log.note(TAKEN, sending, 0, 0);
        return true;
    }

    public boolean swap(int one, int other, int sort) {
        if (one == other || !isPart(one, sort) || !isPart(other, sort)) {
            return false;
        }
        if (now.lies[one * MOST_SORTS + sort] != now.lies[other * MOST_SORTS + sort]) {
            return false;
        }
        now.exchange(one, other, sort);
        log.note(SWAPPED, one, other, sort);
        return true;
    }

    public int lend(int man, int pence) {
        if (!isMan(man) || pence < 1 || pence > 99 || now.pence[man] + pence > MOST_PENCE) {
            return NONE;
        }
        now.pence[man] += pence;
        log.note(LENT, man, pence, 0);
        return now.pence[man];
    }

    public int go(int n) {
        if (!isSpan(n) || now.day + n > LAST_DAY) {
            return NONE;
        }
        if (n > 0) {
            days.start(now, BY_NUMBERS);
            days.pass(n);
            log.clear();
        }
        return now.day;
    }

    public int ahead(int n, int what, int man) {
        if (!isSpan(n) || what < 0 || what > 4 || (what == 3 && !isMan(man))) {
            return NONE;
        }
        trial.copy(now);
        days.start(trial, AS_IT_GOES);
        days.pass(n);
        switch (what) {
            case 0:
                return trial.wantsThatAre(MET) - now.wantsThatAre(MET);
            case 1:
                return trial.wantsThatAre(MISSED) - now.wantsThatAre(MISSED);
            case 2:
                return trial.sendingsGone() - now.sendingsGone();
            case 3:
                return trial.pence[man];
            default:
                return trial.mixed();
        }
    }

    public int first(int man, int deed, int port) {
        if (!isTask(man, deed, port)) {
            return NONE;
        }
        trial.copy(now);
        days.start(trial, AS_IT_GOES);
        for (int gone = 0; gone < MOST_DAYS; gone++) {
            if (trial.lacks(man, deed, port) == 0) {
                return gone;
            }
            days.pass(1);
        }
        return trial.lacks(man, deed, port) == 0 ? MOST_DAYS : NOT_SO_MANY;
    }

    public int load(int what) {
        if (what != 0 && what != 1) {
            return NONE;
        }
        return bestLoad(what == 0);
    }

    /**
     * A load is worth 4096 times its rates less its bits: so one number tells both that more
     * rates are better and that, of equal ones, fewer bits are.
     */
    private int bestLoad(boolean isBits) {
        for (int room = 0; room <= MOST_ROOM; room++) {
            bestOfRoom[room] = 0;
        }
        int dock = now.day & 1;
        for (int sending = 0; sending < now.sendings; sending++) {
            int man = now.sendingAt(sending, SENDING_MAN);
            int sort = now.sendingAt(sending, SENDING_SORT);
            if (now.isDue(sending) && now.lies[man * MOST_SORTS + sort] == dock && !isDueBefore(sending)) {
                int worth = told.rate[sort] * 4096 - (1 << sending);
                int size = told.size[sort];
                for (int room = MOST_ROOM; room >= size; room--) {
                    bestOfRoom[room] = Math.max(bestOfRoom[room], bestOfRoom[room - size] + worth);
                }
            }
        }
        int most = bestOfRoom[told.room];
        int rates = (most + 4095) / 4096;
        return isBits ? rates * 4096 - most : rates;
    }

    /** Of two sendings of one part the lower one is the better one: its bit is less. */
    private boolean isDueBefore(int sending) {
        for (int earlier = 0; earlier < sending; earlier++) {
            if (now.isDue(earlier)
                    && now.sendingAt(earlier, SENDING_MAN) == now.sendingAt(sending, SENDING_MAN)
                    && now.sendingAt(earlier, SENDING_SORT) == now.sendingAt(sending, SENDING_SORT)) {
                return true;
            }
        }
        return false;
    }

    public int order(int what) {
        if (what < 0 || what > 4) {
            return Integer.MIN_VALUE;
        }
        order.choose(now);
        for (int row = 0; row < Order.ROWS; row++) {
            if (order.isRow(row)) {
                trial.copy(now);
                order.layOut(row, trial);
                days.start(trial, AS_IT_GOES);
                days.pass(Order.SPAN);
                order.weigh(row, trial.allPence());
            }
        }
        if (what == 4) {
            return order.most - now.allPence();
        }
        return what < order.chosen ? order.best[what] : NOT_SO_MANY;
    }

    public int swaps() {
        int swaps = 0;
        for (int sort = 0; sort < told.counts[SORTS]; sort++) {
            swaps += told.counts[PEOPLE] - now.rings(sort);
        }
        return swaps;
    }

    public int together(int one, int other, int port) {
        if (one == other || !isMan(one) || !isMan(other) || !isPort(port)) {
            return NONE;
        }
        int bits = 0;
        for (int deed = 0; deed < told.counts[DEEDS]; deed++) {
            if ((now.lacks(one, deed, port) & now.lacks(other, deed, port)) == 0) {
                bits |= 1 << deed;
            }
        }
        return bits;
    }

    public int needs(int man, int deed, int port) {
        return isTask(man, deed, port) ? now.lacks(man, deed, port) : NONE;
    }

    public int cheap(int man, int deed, int port) {
        if (!isTask(man, deed, port)) {
            return NONE;
        }
        int lacking = now.lacks(man, deed, port);
        int rates = 0;
        for (int sort = 0; sort < told.counts[SORTS]; sort++) {
            rates += (lacking >> sort & 1) * told.rate[sort];
        }
        return rates;
    }

    public int rests(int one, int other, int sort) {
        if (one == other || !isPart(one, sort) || !isPart(other, sort)) {
            return NONE;
        }
        int rests = 0;
        for (int choices = 0; choices < 4; choices++) {
            rests += isRest(one, other, sort, choices) ? 1 : 0;
        }
        return rests;
    }

    public int rest(int one, int other, int sort, int k) {
        if (k < 0 || one == other || !isPart(one, sort) || !isPart(other, sort)) {
            return NONE;
        }
        int left = k;
        for (int choices = 0; choices < 4; choices++) {
            if (isRest(one, other, sort, choices)) {
                if (left == 0) {
                    return (choices >> 1) * 10 + (choices & 1);
                }
                left--;
            }
        }
        return NOT_SO_MANY;
    }

    private boolean isRest(int one, int other, int sort, int choices) {
        int ones = choices >> 1;
        int others = choices & 1;
        return meetGain(one, sort, ones, others) >= meetGain(one, sort, 1 - ones, others)
                && meetGain(other, sort, others, ones) >= meetGain(other, sort, 1 - others, ones);
    }

    private int meetGain(int man, int sort, int boat, int boatOfOther) {
        int gain = boat == boatOfOther ? told.rate[sort] / 3 : told.rate[sort];
        return boat == 0 ? gain + now.away(man) : gain;
    }

    public long calm(int n, int what) {
        if (n < 0 || n > 6 || (what != 0 && what != 1)) {
            return NONE;
        }
        int above = 100 - told.storm;
        int factor = commonFactor(above, 100);
        if (factor < 1) {
            return NONE;
        }
        int oneDay = what == 0 ? above / factor : 100 / factor;
        long product = 1;
        for (int day = 0; day < n; day++) {
            product *= oneDay;
        }
        return product;
    }

    private static int commonFactor(int one, int other) {
        int factor = 1;
        for (int tried = 2; tried <= other; tried++) {
            if (one % tried == 0 && other % tried == 0) {
                factor = tried;
            }
        }
        return factor;
    }

    public int whose(int man, int sort) {
        return isPart(man, sort) ? now.holderOf(man, sort) : NONE;
    }

    public int those(int what) {
        switch (what) {
            case 0:
                return now.lost();
            case 1:
                return now.halves();
            case 2:
                return now.dueSendings();
            default:
                return NONE;
        }
    }

    public int see(int days, int man, int sort, boolean isThere) {
        if (days < 1 || days > 40 || !isPart(man, sort) || seen.size >= MOST_SEEN) {
            return NONE;
        }
        return seen.put(days, man, sort, isThere);
    }

    public int out(int seen) {
        if (seen < 0 || seen >= this.seen.size || this.seen.size >= MOST_SEEN) {
            return NONE;
        }
        return this.seen.putStrike(seen);
    }

    public boolean known(int n) {
        if (n < Seen.ALL || n > seen.size) {
            return false;
        }
        seen.by = n;
        return true;
    }

    public int rooms() {
        int longest = seen.weigh();
        int bits = 0;
        for (int room = 1; room <= 10; room++) {
            trial.begin(told);
            days.start(trial, AS_IT_GOES);
            days.room = room;
            boolean isAsSeen = true;
            for (int day = 1; day <= longest && isAsSeen; day++) {
                days.pass(1);
                isAsSeen = seen.agrees(day, trial);
            }
            if (isAsSeen) {
                bits |= 1 << (room - 1);
            }
        }
        return bits;
    }

    public int chance(int seed, int n, int mixed) {
        if (seed < 0 || n < 1 || n > MOST_DAYS || mixed < 0 || mixed > 25) {
            return NONE;
        }
        int last = seed;
        int times = 0;
        for (int time = 0; time < 10; time++) {
            trial.copy(now);
            trial.last = last;
            days.start(trial, BY_NUMBERS);
            days.pass(n);
            last = trial.last;
            times += trial.mixed() >= mixed ? 1 : 0;
        }
        return times;
    }

    public int tried(int what, int i, int n) {
        boolean isSuch = what == 2 ? isMan(i) : what >= 0 && what <= 5 && i == 0;
        if (!isSuch || !isSpan(n)) {
            return NONE;
        }
        trial.copy(now);
        days.start(trial, what == 1 ? NO_STORMS : AS_IT_GOES);
        if (what == 2) {
            days.silent = i;
        } else if (what == 3) {
            days.room = 99;
        } else if (what == 4) {
            days.isFree = true;
        } else if (what == 5) {
            trial.giveOwn();
        }
        days.pass(n);
        return trial.wantsThatAre(MET) - now.wantsThatAre(MET);
    }

    public int undo() {
        if (log.size < 1) {
            return NONE;
        }
        log.size--;
        int one = log.at(log.size, 1);
        int other = log.at(log.size, 2);
        switch (log.at(log.size, 0)) {
            case SENT:
                now.sendings--;
                break;
            case TAKEN:
                now.setSending(one, SENDING_STATE, TO_GO);
                break;
            case SWAPPED:
                now.exchange(one, other, log.at(log.size, 3));
                break;
            default:
                now.pence[one] -= other;
                break;
        }
        return log.size;
    }

    public int keep() {
        image.copy(now);
        hasImage = true;
        return now.day;
    }

    public int back() {
        if (!hasImage) {
            return NONE;
        }
        now.copy(image);
        log.clear();
        return now.day;
    }

    public int count(int what) {
        switch (what) {
            case 0:
            case 1:
            case 2:
                return told.counts[what];
            case 3:
                return now.sendings;
            case 4:
                return told.wants;
            case 5:
                return told.laws.knots;
            case 6:
                return now.day;
            case 7:
                return now.wantsThatAre(MET);
            case 8:
                return now.wantsThatAre(MISSED);
            case 9:
                return now.sendingsGone();
            case 10:
                return now.allPence();
            case 11:
                return now.mixed();
            case 12:
                return now.storms;
            case 13:
                return seen.size;
            case 14:
                return seen.limit();
            case 15:
                return log.size;
            default:
                return NONE;
        }
    }

    private boolean isMan(int man) {
        return man >= 0 && man < told.counts[PEOPLE];
    }

    private boolean isSort(int sort) {
        return sort >= 0 && sort < told.counts[SORTS];
    }

    private boolean isDeed(int deed) {
        return deed >= 0 && deed < told.counts[DEEDS];
    }

    private boolean isSending(int sending) {
        return sending >= 0 && sending < now.sendings;
    }

    private boolean isWant(int want) {
        return want >= 0 && want < told.wants;
    }

    private boolean isPart(int man, int sort) {
        return isMan(man) && isSort(sort);
    }

    private static boolean isPort(int port) {
        return port == 0 || port == 1;
    }

    private boolean isTask(int man, int deed, int port) {
        return isMan(man) && isDeed(deed) && isPort(port);
    }

    private static boolean isSpan(int n) {
        return n >= 0 && n <= MOST_DAYS;
    }

    /** What a text tells; nothing that goes by changes it. */
    private static final class Told {
        final int[] counts = new int[3];
        /** By kinds: of each there are as many as people at most. */
        final int[] names = new int[3 * MOST_PEOPLE];
        final int[] pence = new int[MOST_PEOPLE];
        final int[] size = new int[MOST_SORTS];
        final int[] rate = new int[MOST_SORTS];
        final int[] needed = new int[MOST_DEEDS];
        int sendings = 0;
        final int[] sent = new int[MOST_SENDINGS * SENDING_COLUMNS];
        int wants = 0;
        final int[] wanted = new int[MOST_WANTS * WANT_COLUMNS];
        int room = 9;
        int storm = 0;
        int seed = 0;
        final Laws laws = new Laws();

        /** The rows keep what stood in them: the counts say how far they are told. */
        void clear() {
            counts[PEOPLE] = 0;
            counts[SORTS] = 0;
            counts[DEEDS] = 0;
            sendings = 0;
            wants = 0;
            room = 9;
            storm = 0;
            seed = 0;
            laws.clear();
        }

        int find(int kind, int letters) {
            for (int i = 0; i < counts[kind]; i++) {
                if (names[kind * MOST_PEOPLE + i] == letters) {
                    return i;
                }
            }
            return NONE;
        }

        int wantAt(int want, int column) {
            return wanted[want * WANT_COLUMNS + column];
        }
    }

    /** The three laws, each E as a row in which an operator stands behind what it works on. */
    private static final class Laws {
        static final long ERROR = Long.MIN_VALUE;
        static final long LIMIT = 1000000000000L;
        static final int MOST_KNOTS = 64;
        /** In a row of knots: the names stand behind the numbers, the operators behind the names. */
        static final int FIRST_NAME = 10000;
        static final int FIRST_OPERATOR = 10007;
        static final int SIZE = 0;
        static final int RATE = 1;
        static final int PENCE = 2;
        static final int ABOARD = 3;
        static final int AWAY = 4;
        static final int WORTH = 5;
        static final int DAY = 6;

        final int[] code = new int[MOST_KNOTS];
        final int[] begins = new int[3];
        final int[] ends = new int[3];
        int knots = 0;
        private final long[] stack = new long[MOST_KNOTS];

        void clear() {
            knots = 0;
            for (int rule = 0; rule < 3; rule++) {
                begins[rule] = 0;
                ends[rule] = 0;
            }
        }

        /** No E is without a knot. */
        boolean isTold(int rule) {
            return begins[rule] < ends[rule];
        }

        long value(int rule, long[] names) {
            int top = 0;
            for (int i = begins[rule]; i < ends[rule]; i++) {
                int knot = code[i];
                long value;
                if (knot < FIRST_OPERATOR) {
                    value = knot < FIRST_NAME ? knot : names[knot - FIRST_NAME];
                } else if (knot == FIRST_OPERATOR + NOT && top >= 1) {
                    value = stack[top - 1] == 0 ? 1 : 0;
                    top -= 1;
                } else if (top >= 2) {
                    value = worked(knot - FIRST_OPERATOR, stack[top - 2], stack[top - 1]);
                    top -= 2;
                } else {
                    return ERROR;
                }
                if (value > LIMIT || value < -LIMIT) {
                    return ERROR;
                }
                stack[top] = value;
                top++;
            }
            return top == 1 ? stack[0] : ERROR;
        }

        private static long worked(int operator, long one, long other) {
            switch (operator) {
                case ADD:
                    return one + other;
                case SUBTRACT:
                    return one - other;
                case TIMES:
                    return product(one, other);
                case DIVIDE:
                    return other == 0 ? ERROR : one / other;
                case AND:
                    return one != 0 && other != 0 ? 1 : 0;
                case OR:
                    return one != 0 || other != 0 ? 1 : 0;
                default:
                    return isSo(operator, one, other) ? 1 : 0;
            }
        }

        /** A product beyond the limit may be beyond a long, too. */
        private static long product(long one, long other) {
            long far = one < 0 ? -one : one;
            long high = other < 0 ? -other : other;
            return far != 0 && high > LIMIT / far ? ERROR : one * other;
        }

        private static boolean isSo(int comparison, long one, long other) {
            switch (comparison) {
                case LESS:
                    return one < other;
                case AT_MOST:
                    return one <= other;
                case EQUAL:
                    return one == other;
                case UNEQUAL:
                    return one != other;
                case AT_LEAST:
                    return one >= other;
                default:
                    return one > other;
            }
        }
    }

    /** Where all stands on a day. Parts of one who holds them, not of one whose they are, fill the rows. */
    private static final class State {
        Told told;
        int day = 0;
        /** The last number, ahead of its being divided: the next one comes of it. */
        int last = 0;
        int storms = 0;
        final int[] pence = new int[MOST_PEOPLE];
        final int[] held = new int[MOST_PEOPLE * MOST_SORTS];
        final int[] lies = new int[MOST_PEOPLE * MOST_SORTS];
        int sendings = 0;
        private final int[] sent = new int[MOST_SENDINGS * SENDING_COLUMNS];
        final int[] wantState = new int[MOST_WANTS];

        State(Told told) {
            this.told = told;
        }

        void begin(Told text) {
            told = text;
            day = 0;
            last = text.seed;
            storms = 0;
            sendings = text.sendings;
            System.arraycopy(text.pence, 0, pence, 0, MOST_PEOPLE);
            System.arraycopy(text.sent, 0, sent, 0, sent.length);
            for (int part = 0; part < lies.length; part++) {
                lies[part] = 0;
            }
            for (int want = 0; want < MOST_WANTS; want++) {
                wantState[want] = NOT_YET;
            }
            giveOwn();
        }

        void copy(State from) {
            told = from.told;
            day = from.day;
            last = from.last;
            storms = from.storms;
            sendings = from.sendings;
            System.arraycopy(from.pence, 0, pence, 0, pence.length);
            System.arraycopy(from.held, 0, held, 0, held.length);
            System.arraycopy(from.lies, 0, lies, 0, lies.length);
            System.arraycopy(from.sent, 0, sent, 0, sent.length);
            System.arraycopy(from.wantState, 0, wantState, 0, wantState.length);
        }

        void giveOwn() {
            for (int part = 0; part < held.length; part++) {
                held[part] = part / MOST_SORTS;
            }
        }

        int sendingAt(int sending, int column) {
            return sent[sending * SENDING_COLUMNS + column];
        }

        void setSending(int sending, int column, int value) {
            sent[sending * SENDING_COLUMNS + column] = value;
        }

        void putSending(int man, int sort, int from) {
            setSending(sendings, SENDING_MAN, man);
            setSending(sendings, SENDING_SORT, sort);
            setSending(sendings, SENDING_DAY, from);
            setSending(sendings, SENDING_STATE, TO_GO);
            sendings++;
        }

        boolean isDue(int sending) {
            return sendingAt(sending, SENDING_STATE) == TO_GO && sendingAt(sending, SENDING_DAY) <= day;
        }

        int dueSendings() {
            int bits = 0;
            for (int sending = 0; sending < sendings; sending++) {
                if (isDue(sending)) {
                    bits |= 1 << sending;
                }
            }
            return bits;
        }

        int sendingsGone() {
            int gone = 0;
            for (int sending = 0; sending < sendings; sending++) {
                gone += sendingAt(sending, SENDING_STATE) == GONE ? 1 : 0;
            }
            return gone;
        }

        void exchange(int one, int other, int sort) {
            int part = held[one * MOST_SORTS + sort];
            held[one * MOST_SORTS + sort] = held[other * MOST_SORTS + sort];
            held[other * MOST_SORTS + sort] = part;
        }

        int sortsAt(int man, int port) {
            int bits = 0;
            for (int sort = 0; sort < told.counts[SORTS]; sort++) {
                if (lies[man * MOST_SORTS + sort] == port) {
                    bits |= 1 << sort;
                }
            }
            return bits;
        }

        int away(int man) {
            return Integer.bitCount(sortsAt(man, 1));
        }

        int ownSorts(int man) {
            int bits = 0;
            for (int sort = 0; sort < told.counts[SORTS]; sort++) {
                if (held[man * MOST_SORTS + sort] == man) {
                    bits |= 1 << sort;
                }
            }
            return bits;
        }

        /** The sorts of a deed that lie at the other port: none, if one can do it. */
        int lacks(int man, int deed, int port) {
            return told.needed[deed] & sortsAt(man, 1 - port);
        }

        int wantsOf(int man, int state) {
            int wants = 0;
            for (int want = 0; want < told.wants; want++) {
                wants += told.wantAt(want, WANT_MAN) == man && wantState[want] == state ? 1 : 0;
            }
            return wants;
        }

        int wantsThatAre(int state) {
            int wants = 0;
            for (int want = 0; want < told.wants; want++) {
                wants += wantState[want] == state ? 1 : 0;
            }
            return wants;
        }

        int allPence() {
            int sum = 0;
            for (int man = 0; man < told.counts[PEOPLE]; man++) {
                sum += pence[man];
            }
            return sum;
        }

        int mixed() {
            int mixed = told.counts[PEOPLE] * told.counts[SORTS];
            for (int man = 0; man < told.counts[PEOPLE]; man++) {
                mixed -= Integer.bitCount(ownSorts(man));
            }
            return mixed;
        }

        int holderOf(int man, int sort) {
            for (int holder = 0; holder < told.counts[PEOPLE]; holder++) {
                if (held[holder * MOST_SORTS + sort] == man) {
                    return holder;
                }
            }
            return NONE;
        }

        int lost() {
            int bits = 0;
            for (int man = 0; man < told.counts[PEOPLE]; man++) {
                if (told.counts[SORTS] > 0 && ownSorts(man) == 0) {
                    bits |= 1 << man;
                }
            }
            return bits;
        }

        int halves() {
            int bits = 0;
            for (int man = 0; man < told.counts[PEOPLE]; man++) {
                if (sortsAt(man, 0) != 0 && sortsAt(man, 1) != 0) {
                    bits |= 1 << man;
                }
            }
            return bits;
        }

        /** In how many rings the parts of a sort went round; a ring of n takes n - 1 swaps. */
        int rings(int sort) {
            int people = told.counts[PEOPLE];
            int rings = 0;
            int passed = 0;
            for (int man = 0; man < people; man++) {
                if ((passed >> man & 1) == 0) {
                    rings++;
                }
                int one = man;
                for (int step = 0; step < people && (passed >> one & 1) == 0; step++) {
                    passed |= 1 << one;
                    one = held[one * MOST_SORTS + sort];
                }
            }
            return rings;
        }
    }

    /** Lets days go by in a state: in the real one, or in a trial under other rules. */
    private static final class Days {
        int room = 0;
        boolean isFree = false;
        int silent = NONE;
        private State at;
        private Told told;
        private int weather = AS_IT_GOES;
        private final boolean[] isAboard = new boolean[MOST_PEOPLE * MOST_SORTS];
        private int aboard = 0;
        private final long[] names = new long[Laws.FIRST_OPERATOR - Laws.FIRST_NAME];

        Days(State at) {
            this.at = at;
            this.told = at.told;
        }

        void start(State state, int stormsBy) {
            at = state;
            told = state.told;
            weather = stormsBy;
            room = told.room;
            isFree = false;
            silent = NONE;
        }

        void pass(int n) {
            for (int day = 0; day < n; day++) {
                settleWants();
                fillBoat();
                if (storms()) {
                    at.storms++;
                    mixAll();
                }
                if (aboard > 0) {
                    land();
                }
                at.day++;
            }
        }

        private void settleWants() {
            for (int want = 0; want < told.wants; want++) {
                if (told.wantAt(want, WANT_DAY) == at.day) {
                    settle(want);
                }
            }
        }

        private void settle(int want) {
            int man = told.wantAt(want, WANT_MAN);
            if (at.lacks(man, told.wantAt(want, WANT_DEED), told.wantAt(want, WANT_PORT)) != 0) {
                at.wantState[want] = MISSED;
                return;
            }
            at.wantState[want] = MET;
            int gain = within(gainLaw(man, want), told.wantAt(want, WANT_WORTH));
            at.pence[man] = Math.min(MOST_PENCE, at.pence[man] + gain);
        }

        private void fillBoat() {
            int left = room;
            for (int sending = 0; sending < at.sendings; sending++) {
                int man = at.sendingAt(sending, SENDING_MAN);
                int sort = at.sendingAt(sending, SENDING_SORT);
                if (at.isDue(sending) && man != silent && told.size[sort] <= left && boards(man, sort)) {
                    left -= told.size[sort];
                    at.setSending(sending, SENDING_STATE, GONE);
                }
            }
        }

        private boolean boards(int man, int sort) {
            int part = man * MOST_SORTS + sort;
            if (at.lies[part] != (at.day & 1) || isAboard[part]) {
                return false;
            }
            int fare = isFree ? 0 : within(fareLaw(man, sort), told.rate[sort]);
            if (at.pence[man] < fare) {
                return false;
            }
            at.pence[man] -= fare;
            isAboard[part] = true;
            aboard++;
            return true;
        }

        private boolean storms() {
            if (weather == NO_STORMS || told.storm == 0) {
                return false;
            }
            if (told.storm == 100) {
                return true;
            }
            return weather == AS_IT_GOES ? told.storm >= 50 : nextNumber() % 100 < told.storm;
        }

        private int nextNumber() {
            at.last = (int) ((at.last * 1103515245L + 12345) & 0x7fffffffL);
            return at.last / 65536;
        }

        private void mixAll() {
            for (int sort = 0; sort < told.counts[SORTS]; sort++) {
                // without a law, and with an error, it is not 0 either
                if (mixLaw(sort) != 0) {
                    mixTwo(sort);
                }
            }
        }

        private void mixTwo(int sort) {
            int one = NONE;
            for (int man = 0; man < told.counts[PEOPLE]; man++) {
                if (isAboard[man * MOST_SORTS + sort]) {
                    if (one != NONE) {
                        at.exchange(one, man, sort);
                        return;
                    }
                    one = man;
                }
            }
        }

        private void land() {
            for (int part = 0; part < isAboard.length; part++) {
                if (isAboard[part]) {
                    at.lies[part] = 1 - at.lies[part];
                    isAboard[part] = false;
                }
            }
            aboard = 0;
        }

        long fareLaw(int man, int sort) {
            if (!told.laws.isTold(FARE)) {
                return Laws.ERROR;
            }
            nameSort(sort);
            nameMan(man);
            names[Laws.WORTH] = 0;
            return told.laws.value(FARE, names);
        }

        long gainLaw(int man, int want) {
            if (!told.laws.isTold(GAIN)) {
                return Laws.ERROR;
            }
            names[Laws.SIZE] = 0;
            names[Laws.RATE] = 0;
            nameMan(man);
            names[Laws.WORTH] = told.wantAt(want, WANT_WORTH);
            return told.laws.value(GAIN, names);
        }

        long mixLaw(int sort) {
            if (!told.laws.isTold(MIX)) {
                return Laws.ERROR;
            }
            nameSort(sort);
            nameBoat();
            names[Laws.PENCE] = 0;
            names[Laws.AWAY] = aboardOf(sort);
            names[Laws.WORTH] = 0;
            return told.laws.value(MIX, names);
        }

        private void nameSort(int sort) {
            names[Laws.SIZE] = told.size[sort];
            names[Laws.RATE] = told.rate[sort];
        }

        private void nameMan(int man) {
            nameBoat();
            names[Laws.PENCE] = at.pence[man];
            names[Laws.AWAY] = at.away(man);
        }

        private void nameBoat() {
            names[Laws.ABOARD] = aboard;
            names[Laws.DAY] = at.day;
        }

        private int aboardOf(int sort) {
            int parts = 0;
            for (int man = 0; man < told.counts[PEOPLE]; man++) {
                parts += isAboard[man * MOST_SORTS + sort] ? 1 : 0;
            }
            return parts;
        }

        /** What a law gives, brought into 0 .. 999; without one, or with an error, what was told. */
        private static int within(long value, int otherwise) {
            if (value == Laws.ERROR) {
                return otherwise;
            }
            return (int) Math.max(0, Math.min(999, value));
        }
    }

    /** The rows in which the first sendings to go can be due, and the best of those that were weighed. */
    private static final class Order {
        static final int SPAN = 20;
        static final int ROWS = 256;
        private static final int MOST_CHOSEN = 4;

        int chosen = 0;
        int most = 0;
        final int[] best = new int[MOST_CHOSEN];
        private boolean isAnyWeighed = false;
        private final int[] choice = new int[MOST_CHOSEN];

        void choose(State now) {
            isAnyWeighed = false;
            chosen = 0;
            for (int sending = 0; sending < now.sendings && chosen < MOST_CHOSEN; sending++) {
                if (now.sendingAt(sending, SENDING_STATE) == TO_GO) {
                    choice[chosen] = sending;
                    chosen++;
                }
            }
        }

        /** A row is a number of four digits of two bits: so the first rows are the least numbers. */
        private static int digit(int row, int i) {
            return row >> (6 - 2 * i) & 3;
        }

        boolean isRow(int row) {
            int used = 0;
            for (int i = 0; i < MOST_CHOSEN; i++) {
                int digit = digit(row, i);
                boolean isNew = digit < chosen && (used >> digit & 1) == 0;
                if (i < chosen ? !isNew : digit != 0) {
                    return false;
                }
                used |= 1 << digit;
            }
            return true;
        }

        void layOut(int row, State trial) {
            for (int i = 0; i < chosen; i++) {
                trial.setSending(choice[digit(row, i)], SENDING_DAY, trial.day + 2 * i);
            }
        }

        void weigh(int row, int pence) {
            if (isAnyWeighed && pence <= most) {
                return;
            }
            isAnyWeighed = true;
            most = pence;
            for (int i = 0; i < chosen; i++) {
                best[i] = choice[digit(row, i)];
            }
        }
    }

    /** What was seen, and what strikes it. */
    private static final class Seen {
        static final int ALL = -1;

        int size = 0;
        int by = ALL;
        private final int[] days = new int[MOST_SEEN];
        private final int[] man = new int[MOST_SEEN];
        private final int[] sort = new int[MOST_SEEN];
        private final boolean[] isThere = new boolean[MOST_SEEN];
        /** Whom a strike strikes; NONE of what is no strike. */
        private final int[] target = new int[MOST_SEEN];
        private final boolean[] isStruck = new boolean[MOST_SEEN];

        void clear() {
            size = 0;
            by = ALL;
        }

        int limit() {
            return by == ALL ? size : by;
        }

        int put(int when, int who, int which, boolean there) {
            days[size] = when;
            man[size] = who;
            sort[size] = which;
            isThere[size] = there;
            target[size] = NONE;
            size++;
            return size - 1;
        }

        int putStrike(int struck) {
            int strike = put(0, 0, 0, false);
            target[strike] = struck;
            return strike;
        }

        /** Finds what is struck, and the most days of what isn't. */
        int weigh() {
            int longest = 0;
            for (int i = 0; i < size; i++) {
                isStruck[i] = false;
            }
            for (int i = limit() - 1; i >= 0; i--) {
                if (!isStruck[i] && target[i] != NONE) {
                    isStruck[target[i]] = true;
                } else if (!isStruck[i]) {
                    longest = Math.max(longest, days[i]);
                }
            }
            return longest;
        }

        /** Whether all that is known of this day is so; weigh() comes first. */
        boolean agrees(int day, State state) {
            for (int i = 0; i < limit(); i++) {
                if (!isStruck[i] && target[i] == NONE && days[i] == day) {
                    boolean isAway = state.lies[man[i] * MOST_SORTS + sort[i]] == 1;
                    if (isAway != isThere[i]) {
                        return false;
                    }
                }
            }
            return true;
        }
    }

    /** What was done by call since the last day, the latest last. */
    private static final class Log {
        private static final int COLUMNS = 4;

        int size = 0;
        private final int[] rows = new int[MOST_UNDONE * COLUMNS];

        void clear() {
            size = 0;
        }

        void note(int kind, int one, int other, int sort) {
            if (size >= MOST_UNDONE) {
                System.arraycopy(rows, COLUMNS, rows, 0, rows.length - COLUMNS);
                size = MOST_UNDONE - 1;
            }
            rows[size * COLUMNS] = kind;
            rows[size * COLUMNS + 1] = one;
            rows[size * COLUMNS + 2] = other;
            rows[size * COLUMNS + 3] = sort;
            size++;
        }

        int at(int row, int column) {
            return rows[row * COLUMNS + column];
        }
    }

    /** Cuts a text into tokens, one at a time. */
    private static final class Tokens {
        static final int END = 0;
        static final int NUMBER = 1;
        static final int NAME = 2;
        static final int WORD = 3;
        static final int SIGN = 4;
        static final int NO_TOKEN = 5;

        static final int FIRST_RULE = 9;
        static final int WORD_OR = 12;
        static final int WORD_AND = 13;
        static final int WORD_NOT = 14;
        static final int FIRST_NAME = 15;

        private static final String LANGUAGE =
                "man sort deed send want room storm seed law fare gain mix or and not size rate pence aboard away worth day ";
        private static final int WORDS = 22;
        /** Far above all that may be told, and no number beyond it matters. */
        private static final int HUGE = 1000000;

        int kind = END;
        int start = 0;
        /** A number, a name's letters, a word's place in LANGUAGE, or an operator. */
        int value = 0;
        private final byte[] bytes;
        private int length = 0;
        private int next = 0;
        private final int[] words = new int[WORDS];

        Tokens(byte[] text) {
            bytes = text;
            int word = 0;
            int letters = 0;
            int shift = 25;
            for (int i = 0; i < LANGUAGE.length() && word < WORDS; i++) {
                char c = LANGUAGE.charAt(i);
                if (c == ' ') {
                    words[word] = letters;
                    word++;
                    letters = 0;
                    shift = 25;
                } else {
                    letters |= (c - 'a' + 1) << shift;
                    shift -= 5;
                }
            }
        }

        void begin(int n) {
            length = Math.min(n, bytes.length);
            next = 0;
        }

        boolean isWord(int word) {
            return kind == WORD && value == word;
        }

        boolean isSign(int sign) {
            return kind == SIGN && value == sign;
        }

        void step() {
            while (next < length && (bytes[next] == 10 || bytes[next] == 32)) {
                next++;
            }
            start = next;
            if (next >= length) {
                kind = END;
            } else if (isLetter(bytes[next])) {
                stepWord();
            } else if (isDigit(bytes[next])) {
                stepNumber();
            } else {
                stepSign();
            }
        }

        private static boolean isLetter(int c) {
            return c >= 'a' && c <= 'z';
        }

        private static boolean isDigit(int c) {
            return c >= '0' && c <= '9';
        }

        private void stepWord() {
            value = 0;
            while (next < length && isLetter(bytes[next])) {
                int shift = 25 - 5 * (next - start);
                if (shift >= 0) {
                    value |= (bytes[next] - 'a' + 1) << shift;
                }
                next++;
            }
            kind = next - start > 6 ? NO_TOKEN : NAME;
            for (int word = 0; word < WORDS && kind == NAME; word++) {
                if (words[word] == value) {
                    kind = WORD;
                    value = word;
                }
            }
        }

        private void stepNumber() {
            kind = NUMBER;
            value = 0;
            while (next < length && isDigit(bytes[next])) {
                value = Math.min(HUGE, value * 10 + bytes[next] - '0');
                next++;
            }
        }

        private void stepSign() {
            int sign = bytes[next];
            next++;
            int behind = next < length ? bytes[next] : 0;
            kind = SIGN;
            if (sign == '<' && behind == '>') {
                value = UNEQUAL;
                next++;
            } else if ((sign == '<' || sign == '>') && behind == '=') {
                value = sign == '<' ? AT_MOST : AT_LEAST;
                next++;
            } else {
                value = signOf(sign);
                kind = value == NONE ? NO_TOKEN : SIGN;
            }
        }

        private static int signOf(int c) {
            switch (c) {
                case '+':
                    return ADD;
                case '-':
                    return SUBTRACT;
                case '*':
                    return TIMES;
                case '/':
                    return DIVIDE;
                case '<':
                    return LESS;
                case '=':
                    return EQUAL;
                case '>':
                    return MORE;
                case '(':
                    return OPEN;
                case ')':
                    return CLOSE;
                case ';':
                    return LINE_END;
                default:
                    return NONE;
            }
        }
    }

    /** Reads a text's lines; stops at the first fault. */
    private static final class Reader {
        int fault = 0;
        int place = NONE;
        int lines = 0;
        private final Tokens tokens;
        private final Formula formula;
        private Told told;
        private boolean isRoomTold = false;
        private boolean isStormTold = false;
        private boolean isSeedTold = false;

        Reader(byte[] text, Told told) {
            this.told = told;
            tokens = new Tokens(text);
            formula = new Formula(tokens, told.laws);
        }

        /** Whether the first n bytes are a text; if so, it is told then. */
        boolean reads(int n, Told into) {
            told = into;
            told.clear();
            fault = 0;
            place = NONE;
            lines = 0;
            isRoomTold = false;
            isStormTold = false;
            isSeedTold = false;
            tokens.begin(n);
            tokens.step();
            for (int i = 0; i < n && tokens.kind != Tokens.END && fault == 0; i++) {
                readLine();
                needSign(LINE_END);
                lines++;
            }
            return fault == 0;
        }

        /** Only the first fault stays: a line is read on behind it, but nothing comes of that. */
        private void fail(int number) {
            if (fault == 0) {
                fault = number;
                place = tokens.start;
            }
        }

        private void failIf(boolean isWrong, int number) {
            if (isWrong) {
                fail(number);
            }
        }

        private void needSign(int sign) {
            failIf(!tokens.isSign(sign), WRONG_TOKEN);
            tokens.step();
        }

        /** The cases are the places of the words in LANGUAGE. */
        private void readLine() {
            int word = tokens.kind == Tokens.WORD ? tokens.value : NONE;
            switch (word) {
                case 0:
                    readMan();
                    break;
                case 1:
                    readSort();
                    break;
                case 2:
                    readDeed();
                    break;
                case 3:
                    readSend();
                    break;
                case 4:
                    readWant();
                    break;
                case 5:
                    readRoom();
                    break;
                case 6:
                    readStorm();
                    break;
                case 7:
                    readSeed();
                    break;
                case 8:
                    readLaw();
                    break;
                default:
                    fail(WRONG_TOKEN);
                    break;
            }
        }

        private void readMan() {
            int man = newOne(PEOPLE, MOST_PEOPLE);
            int pence = number(0, 999);
            if (fault == 0) {
                told.pence[man] = pence;
            }
        }

        private void readSort() {
            int sort = newOne(SORTS, MOST_SORTS);
            int size = number(1, 9);
            int rate = number(0, 99);
            if (fault == 0) {
                told.size[sort] = size;
                told.rate[sort] = rate;
            }
        }

        private void readDeed() {
            int deed = newOne(DEEDS, MOST_DEEDS);
            int sorts = number(0, 31);
            if (fault == 0) {
                told.needed[deed] = sorts;
            }
        }

        private void readSend() {
            failIf(told.sendings >= MOST_SENDINGS, TOO_MUCH);
            tokens.step();
            int row = told.sendings * SENDING_COLUMNS;
            int man = oldOne(PEOPLE);
            int sort = oldOne(SORTS);
            int day = number(0, 99);
            if (fault == 0) {
                told.sent[row + SENDING_MAN] = man;
                told.sent[row + SENDING_SORT] = sort;
                told.sent[row + SENDING_DAY] = day;
                told.sent[row + SENDING_STATE] = TO_GO;
                told.sendings++;
            }
        }

        private void readWant() {
            failIf(told.wants >= MOST_WANTS, TOO_MUCH);
            tokens.step();
            int row = told.wants * WANT_COLUMNS;
            int man = oldOne(PEOPLE);
            int deed = oldOne(DEEDS);
            int port = number(0, 1);
            int day = number(0, 99);
            int worth = number(0, 99);
            if (fault == 0) {
                told.wanted[row + WANT_MAN] = man;
                told.wanted[row + WANT_DEED] = deed;
                told.wanted[row + WANT_PORT] = port;
                told.wanted[row + WANT_DAY] = day;
                told.wanted[row + WANT_WORTH] = worth;
                told.wants++;
            }
        }

        private void readRoom() {
            failIf(isRoomTold, TOLD_ALREADY);
            tokens.step();
            isRoomTold = true;
            told.room = number(1, MOST_ROOM);
        }

        private void readStorm() {
            failIf(isStormTold, TOLD_ALREADY);
            tokens.step();
            isStormTold = true;
            told.storm = number(0, 100);
        }

        private void readSeed() {
            failIf(isSeedTold, TOLD_ALREADY);
            tokens.step();
            isSeedTold = true;
            told.seed = number(0, 99999);
        }

        private void readLaw() {
            tokens.step();
            int rule = tokens.kind == Tokens.WORD ? tokens.value - Tokens.FIRST_RULE : NONE;
            if (rule < FARE || rule > MIX) {
                fail(WRONG_TOKEN);
                return;
            }
            failIf(told.laws.isTold(rule), TOLD_ALREADY);
            tokens.step();
            if (fault == 0) {
                int inside = formula.reads(told.laws, rule);
                failIf(inside != 0, inside);
            }
        }

        /** The number of one whose name is told now, at the word of its line. */
        private int newOne(int kind, int most) {
            int number = told.counts[kind];
            failIf(number >= most, TOO_MUCH);
            tokens.step();
            failIf(tokens.kind != Tokens.NAME, WRONG_TOKEN);
            failIf(told.find(kind, tokens.value) != NONE, TOLD_ALREADY);
            if (fault == 0) {
                told.names[kind * MOST_PEOPLE + number] = tokens.value;
                told.counts[kind]++;
            }
            tokens.step();
            return number;
        }

        private int oldOne(int kind) {
            failIf(tokens.kind != Tokens.NAME, WRONG_TOKEN);
            int number = told.find(kind, tokens.value);
            failIf(number == NONE, NOT_TOLD);
            tokens.step();
            return number;
        }

        private int number(int least, int most) {
            failIf(tokens.kind != Tokens.NUMBER, WRONG_TOKEN);
            int number = tokens.value;
            failIf(number < least || number > most, TOO_MUCH);
            tokens.step();
            return number;
        }
    }

    /** Reads one E: an operator waits until what binds more tightly behind it is written. */
    private static final class Formula {
        private static final int MOST_OPEN = 8;
        private static final int MOST_IN_E = 9999;
        private static final int RANK_OF_NOT = 3;
        private static final int RANK_OF_COMPARISONS = 4;

        private final int[] waiting = new int[Laws.MOST_KNOTS + MOST_OPEN];
        private int waits = 0;
        private int open = 0;
        private int written = 0;
        private boolean isOperandDue = true;
        private final Tokens tokens;
        private Laws laws;

        Formula(Tokens tokens, Laws none) {
            this.tokens = tokens;
            this.laws = none;
        }

        /** Ends at the first token behind E, or at the one that has the fault it answers. */
        int reads(Laws into, int rule) {
            laws = into;
            waits = 0;
            open = 0;
            written = laws.knots;
            isOperandDue = true;
            laws.begins[rule] = written;
            for (int i = 0; i < MOST_BYTES && !isAtEnd(); i++) {
                int fault;
                if (isOperandDue) {
                    fault = takeOperand();
                } else {
                    fault = tokens.isSign(CLOSE) ? takeClose() : takeOperator();
                }
                if (fault != 0) {
                    return fault;
                }
                tokens.step();
            }
            writeWaiting(1);
            laws.ends[rule] = written;
            return 0;
        }

        private boolean isAtEnd() {
            return !isOperandDue && open == 0 && tokens.isSign(LINE_END);
        }

        private int takeOperand() {
            if (tokens.isSign(OPEN)) {
                return takeOpen();
            }
            if (tokens.isWord(Tokens.WORD_NOT)) {
                boolean mayStand = waits == 0 || rankOf(waiting[waits - 1]) <= RANK_OF_NOT;
                return mayStand ? takeKnot(NOT) : WRONG_TOKEN;
            }
            if (tokens.kind == Tokens.NUMBER) {
                return tokens.value > MOST_IN_E ? TOO_MUCH : takeLeaf(tokens.value);
            }
            if (tokens.kind == Tokens.WORD && tokens.value >= Tokens.FIRST_NAME) {
                return takeLeaf(Laws.FIRST_NAME + tokens.value - Tokens.FIRST_NAME);
            }
            return WRONG_TOKEN;
        }

        private int takeOpen() {
            if (open >= MOST_OPEN) {
                return TOO_MUCH;
            }
            open++;
            push(OPEN);
            return 0;
        }

        private int takeOperator() {
            int operator = operatorHere();
            if (operator == NONE) {
                return WRONG_TOKEN;
            }
            int rank = rankOf(operator);
            if (rank != RANK_OF_COMPARISONS) {
                writeWaiting(rank);
            } else {
                writeWaiting(rank + 1);
                if (waits > 0 && rankOf(waiting[waits - 1]) == rank) {
                    return WRONG_TOKEN;
                }
            }
            isOperandDue = true;
            return takeKnot(operator);
        }

        private int takeClose() {
            if (open < 1) {
                return WRONG_TOKEN;
            }
            open--;
            writeWaiting(1);
            waits = Math.max(0, waits - 1);
            return 0;
        }

        private int operatorHere() {
            if (tokens.kind == Tokens.SIGN && tokens.value <= MORE) {
                return tokens.value;
            }
            if (tokens.isWord(Tokens.WORD_AND)) {
                return AND;
            }
            return tokens.isWord(Tokens.WORD_OR) ? OR : NONE;
        }

        private int takeKnot(int operator) {
            if (laws.knots >= Laws.MOST_KNOTS) {
                return TOO_MUCH;
            }
            laws.knots++;
            push(operator);
            return 0;
        }

        private int takeLeaf(int knot) {
            if (laws.knots >= Laws.MOST_KNOTS) {
                return TOO_MUCH;
            }
            laws.knots++;
            write(knot);
            isOperandDue = false;
            return 0;
        }

        private void push(int operator) {
            if (waits < waiting.length) {
                waiting[waits] = operator;
                waits++;
            }
        }

        /** Writes those that wait down to one of a lower rank; '(' is below all. */
        private void writeWaiting(int rank) {
            while (waits > 0 && rankOf(waiting[waits - 1]) >= rank) {
                waits--;
                write(Laws.FIRST_OPERATOR + waiting[waits]);
            }
        }

        private void write(int knot) {
            if (written < Laws.MOST_KNOTS) {
                laws.code[written] = knot;
                written++;
            }
        }

        private static int rankOf(int operator) {
            switch (operator) {
                case OPEN:
                    return 0;
                case OR:
                    return 1;
                case AND:
                    return 2;
                case NOT:
                    return RANK_OF_NOT;
                case ADD:
                case SUBTRACT:
                    return 5;
                case TIMES:
                case DIVIDE:
                    return 6;
                default:
                    return RANK_OF_COMPARISONS;
            }
        }
    }
}
