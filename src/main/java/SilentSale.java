/**
 * A sale in which each lot goes to whoever is silent longest.
 *
 * The document's face is the public part of this class. The classes inside hold the texts (Tape, Terms, Rule),
 * what changes (State, Past, Logs, Image), the course of minutes (Clerk) and the searches (Seating, Trickery, Sleuth).
 * Nothing is made after the constructor: every row is used again, since all calls of a run share one room.
 */
public final class SilentSale {
    public static final int NONE = -1;

    private static final int MOST_BYTES = 400;
    private static final int MOST_BIDDERS = 5;
    private static final int MOST_LOTS = 3;
    private static final int MOST_TRICKS = 3;
    private static final int MOST_RULES = 6;
    private static final int MOST_IMAGES = 4;
    private static final int MOST_LOGS = 10;
    private static final int MOST_ACTS = 20;
    private static final int MOST_MINUTES = 300;
    private static final int MOST_COINS = 999;
    private static final int LAST_MINUTE = 9999;

    private static final int NOT_BEGUN = 0;
    private static final int GOES_ON = 1;
    private static final int OVER = 2;

    private static final int NOT_THERE = -2;
    private static final int BY_NONE = -3;
    private static final int NO_ANSWER = -1000;

    private static final int FAULT_BYTE = 0;
    private static final int FAULT_NUMBER = 1;
    private static final int FAULT_DEPTH = 2;
    private static final int FAULT_PIECE = 3;
    private static final int FAULT_CLAUSE = 4;

    private final Tape tape;
    private final Terms terms;
    private final Terms draft;
    private final State state;
    private final State asked;
    private final Past past;
    private final Logs logs;
    private final Rule[] rules;
    private final Image[] images;
    private final Clerk clerk;
    private final Seating seating;
    private final Trickery trickery;
    private final Sleuth sleuth;
    private int ruleCount;
    private int inForce;
    private int x;

    public SilentSale() {
        tape = new Tape();
        terms = new Terms();
        draft = new Terms();
        state = new State();
        asked = new State();
        past = new Past();
        logs = new Logs();
        rules = new Rule[MOST_RULES];
        for (int k = 0; k < MOST_RULES; k++) {
            rules[k] = new Rule();
        }
        images = new Image[MOST_IMAGES];
        for (int k = 0; k < MOST_IMAGES; k++) {
            images[k] = new Image();
        }
        clerk = new Clerk();
        seating = new Seating();
        trickery = new Trickery();
        sleuth = new Sleuth();
        ruleCount = 0;
        inForce = NONE;
        x = 0;
        state.open(terms);
    }

    // ---- texts -----------------------------------------------------------------------------------------------

    public int feed(int a, int b, int c, int d, int e) {
        if (tape.size() + 20 > MOST_BYTES) {
            return NONE;
        }
        tape.put(a);
        tape.put(b);
        tape.put(c);
        tape.put(d);
        tape.put(e);
        return tape.size();
    }

    public int end(int n) {
        if (n < 0 || n > tape.size()) {
            return NONE;
        }
        tape.cut(n);
        return n;
    }

    public int sale() {
        int fault = draft.readSale(tape);
        if (fault != 0) {
            return -2 - fault;
        }
        tape.cut(0);
        terms.copyFrom(draft);
        state.open(terms);
        logs.clear();
        past.forget();
        return terms.lots;
    }

    public int rule() {
        if (ruleCount >= MOST_RULES) {
            return NONE;
        }
        // A slot beyond the count is nobody's yet, so that a text with a fault may spoil it.
        int fault = rules[ruleCount].readRule(tape);
        tape.cut(0);
        if (fault != 0) {
            return -2 - fault;
        }
        ruleCount++;
        return ruleCount - 1;
    }

    public int force(int rule) {
        if (rule < NONE || rule >= ruleCount) {
            return NOT_THERE;
        }
        int was = inForce;
        inForce = rule;
        return was;
    }

    // ---- what is told and how it stands ----------------------------------------------------------------------

    public int bidder(int bidder, int what) {
        if (!isBidder(bidder)) {
            return NO_ANSWER;
        }
        switch (what) {
            case 0:
                return state.purse[bidder];
            case 1:
                return state.patience[bidder];
            case 2:
                return state.seat[bidder];
            case 3:
                return state.isSilent(bidder) ? 1 : 0;
            case 4:
                return state.tricked[bidder];
            case 5:
                return state.lotsOf(bidder);
            case 6:
                return state.gainOf(bidder, terms);
            default:
                return NO_ANSWER;
        }
    }

    public int lot(int lot, int what) {
        if (!isLot(lot)) {
            return NOT_THERE;
        }
        switch (what) {
            case 0:
                return state.stage[lot];
            case 1:
                return state.gone[lot];
            case 2:
                return state.owner[lot];
            case 3:
                return state.paid[lot];
            case 4:
                return state.sittersOf(lot);
            case 5:
                return state.silentAt[lot];
            default:
                return NOT_THERE;
        }
    }

    public int worth(int bidder, int lot) {
        return isBidder(bidder) && isLot(lot) ? terms.worthTo(bidder, lot) : NONE;
    }

    public int trick(int trick, int what) {
        if (!isTrick(trick) || what < 0 || what > 1) {
            return NONE;
        }
        return what == 0 ? terms.price[trick] : terms.effect[trick];
    }

    public int count(int what) {
        switch (what) {
            case 0:
                return terms.longest;
            case 1:
                return terms.bidders;
            case 2:
                return terms.lots;
            case 3:
                return terms.tricks;
            case 4:
                return ruleCount;
            case 5:
                return inForce;
            case 6:
                return state.minutes;
            case 7:
                return state.silentOnes();
            case 8:
                return state.lotsAt(GOES_ON);
            case 9:
                return state.lotsAt(OVER);
            case 10:
                return state.allPaid();
            case 11:
                return logs.size;
            case 12:
                return past.size;
            case 13:
                return x;
            case 14:
                return tape.size();
            default:
                return NONE;
        }
    }

    // ---- acts ------------------------------------------------------------------------------------------------

    public int minute() {
        if (state.lotsAt(GOES_ON) == 0 || state.minutes >= LAST_MINUTE) {
            return NONE;
        }
        past.keep(state);
        callClerk();
        return clerk.pass(state, 0);
    }

    public int sit(int bidder, int lot) {
        if (!isBidder(bidder) || state.isSilent(bidder)) {
            return NOT_THERE;
        }
        int was = state.seat[bidder];
        if (lot != NONE && (!isLot(lot) || lot == was || state.stage[lot] != NOT_BEGUN)) {
            return NOT_THERE;
        }
        past.keep(state);
        state.seat[bidder] = lot;
        return was;
    }

    public int bell(int lot) {
        if (!isLot(lot) || state.stage[lot] != NOT_BEGUN || state.sittersOf(lot) == 0) {
            return NONE;
        }
        past.keep(state);
        return state.begin(lot);
    }

    public int play(int one, int other, int trick) {
        if (!isBidder(one) || !isBidder(other) || one == other || !isTrick(trick)) {
            return NONE;
        }
        if (!state.canTrick(one, other, trick, terms)) {
            return NONE;
        }
        past.keep(state);
        state.trickNow(one, other, trick, terms);
        return state.patience[other];
    }

    public int fire(int lot) {
        if (!isLot(lot) || state.stage[lot] != GOES_ON) {
            return NONE;
        }
        past.keep(state);
        int gone = state.gone[lot];
        state.breakOff(lot);
        return gone;
    }

    public int undo() {
        return past.takeBack(state) ? past.size : NONE;
    }

    // ---- what is asked ---------------------------------------------------------------------------------------

    public int ahead(int number, int n, int what) {
        if (!isTold() || n < 0 || n > MOST_MINUTES || what < 0 || what > 2) {
            return NO_ANSWER;
        }
        if (what == 0 ? !isLot(number) : !isBidder(number)) {
            return NO_ANSWER;
        }
        beginAsking();
        clerk.passMany(asked, n);
        if (what == 0) {
            return asked.owner[number];
        }
        return what == 1 ? asked.patience[number] : asked.gainOf(number, terms);
    }

    public int ends(int lot, int what) {
        if (!isLot(lot) || state.stage[lot] != GOES_ON || what < 0 || what > 2) {
            return NOT_THERE;
        }
        beginAsking();
        clerk.passTillOver(asked, lot);
        if (what == 0) {
            return asked.gone[lot] - state.gone[lot];
        }
        return what == 1 ? asked.owner[lot] : asked.paid[lot];
    }

    public int hold(int bidder, int what) {
        int lot = roomOf(bidder);
        if (lot == NONE || what < 0 || what > 1) {
            return NO_ANSWER;
        }
        // Whoever holds for less than it takes has nothing of the lot, and whoever holds for longer has it at the
        // same minute: so the one course in which they never speak of themselves tells all.
        int without = state.gainOf(bidder, terms);
        beginAsking();
        clerk.letHold(bidder);
        clerk.passTillOver(asked, lot);
        int with = asked.gainOf(bidder, terms);
        if (what == 1) {
            return Math.max(with, without);
        }
        return with > without ? asked.gone[lot] : 0;
    }

    public int rests(int one, int other, int lot, int what) {
        if (!isBidder(one) || !isBidder(other) || one == other || !isLot(lot) || what < 0 || what > 2) {
            return NONE;
        }
        int found = 0;
        int first = NOT_THERE;
        for (int pair = 0; pair < 100; pair++) {
            int mine = pair / 10 * 10;
            int theirs = pair % 10 * 10;
            if (isBestAgainst(terms.worthTo(one, lot), mine, theirs)
                    && isBestAgainst(terms.worthTo(other, lot), theirs, mine)) {
                first = found == 0 ? pair : first;
                found++;
            }
        }
        if (what == 0) {
            return found;
        }
        if (first < 0) {
            return NOT_THERE;
        }
        return (what == 1 ? first / 10 : first % 10) * 10;
    }

    public int seats(int what) {
        if (!isTold() || what < 0 || what > MOST_BIDDERS) {
            return NO_ANSWER;
        }
        callClerk();
        seating.findSeats(clerk, terms, state);
        return what == 0 ? seating.gains : seating.best[what - 1];
    }

    public int tricks(int bidder, int what) {
        int lot = roomOf(bidder);
        if (lot == NONE || what < 0 || what > MOST_BIDDERS) {
            return -4;
        }
        callClerk();
        trickery.findTricks(clerk, terms, state, bidder, lot);
        if (trickery.coins < 0) {
            return BY_NONE;
        }
        return what == 0 ? trickery.coins : trickery.best[what - 1];
    }

    public int ring(int bidders, int what) {
        int lot = Integer.bitCount(bidders) < 2 ? NONE : roomOfAll(bidders);
        if (lot == NONE || what < 0 || what > 1) {
            return NO_ANSWER;
        }
        beginAsking();
        clerk.pass(asked, bidders & ~(1 << keeperOf(bidders, lot)));
        clerk.passTillOver(asked, lot);
        int with = gainsOf(bidders);
        asked.copyFrom(state);
        clerk.passTillOver(asked, lot);
        if (what == 0) {
            return with - gainsOf(bidders);
        }
        return nobodyHasMore(bidders, Math.floorDiv(with, Math.max(1, Integer.bitCount(bidders)))) ? 1 : 0;
    }

    public int breath(int bidder) {
        int lot = roomOf(bidder);
        if (lot == NONE) {
            return NONE;
        }
        callClerk();
        for (int patience = 1; patience <= MOST_MINUTES; patience++) {
            asked.copyFrom(state);
            asked.patience[bidder] = patience;
            if (clerk.passTillDecided(asked, lot, bidder)) {
                return patience;
            }
        }
        return NOT_THERE;
    }

    // ---- logs, draws, images ---------------------------------------------------------------------------------

    public int log(int lot, int bidder, int coins) {
        if (lot == NONE) {
            logs.clear();
            return 0;
        }
        if (!isLot(lot) || (bidder != NONE && !isBidder(bidder)) || coins < 0 || coins > MOST_COINS) {
            return NOT_THERE;
        }
        return logs.add(lot, bidder, coins) ? logs.size : NOT_THERE;
    }

    public int ruled(int what) {
        if (!isTold() || what < 0 || what > 1) {
            return -3;
        }
        sleuth.findRules(clerk, terms, rules, ruleCount, logs);
        if (what == 0) {
            return sleuth.howMany();
        }
        return sleuth.howMany() == 0 ? NOT_THERE : lowestOf(sleuth.fitting) - 1;
    }

    public int look(int what) {
        if (!isTold() || what < 0 || what > 1) {
            return NONE;
        }
        sleuth.findRules(clerk, terms, rules, ruleCount, logs);
        if (sleuth.howMany() == 0 || terms.lots == 0) {
            return NOT_THERE;
        }
        int best = 0;
        for (int lot = 1; lot < terms.lots; lot++) {
            if (sleuth.mostAlike(lot) < sleuth.mostAlike(best)) {
                best = lot;
            }
        }
        return what == 0 ? best : sleuth.mostAlike(best);
    }

    public int seed(int x) {
        if (x < 0) {
            return NONE;
        }
        int was = this.x;
        this.x = x;
        return was;
    }

    public int coughs(int m, int n, int p, int what) {
        if (!isTold() || m < 1 || m > 10 || n < 1 || n > 60) {
            return NONE;
        }
        if (p < 0 || p > 100 || what < 0 || what > 1) {
            return NONE;
        }
        callClerk();
        clerk.drawFrom(x);
        int total = 0;
        for (int time = 0; time < m; time++) {
            asked.copyFrom(state);
            for (int k = 0; k < n && asked.lotsAt(GOES_ON) != 0; k++) {
                clerk.pass(asked, clerk.drawCoughs(asked, p));
            }
            total += what == 0 ? asked.lotsHad() - state.lotsHad() : asked.allPaid() - state.allPaid();
        }
        return total;
    }

    public int image(int k) {
        if (k < 0 || k >= MOST_IMAGES) {
            return NONE;
        }
        images[k].takeFrom(terms, state, logs);
        images[k].inForce = inForce;
        images[k].x = x;
        return state.minutes;
    }

    public int back(int k) {
        if (k < 0 || k >= MOST_IMAGES || !images[k].made) {
            return NONE;
        }
        images[k].giveBack(terms, state, logs);
        inForce = images[k].inForce;
        x = images[k].x;
        past.forget();
        return state.minutes;
    }

    // ---- helpers ---------------------------------------------------------------------------------------------

    private boolean isTold() {
        return terms.longest > 0;
    }

    private boolean isBidder(int bidder) {
        return bidder >= 0 && bidder < terms.bidders;
    }

    private boolean isLot(int lot) {
        return lot >= 0 && lot < terms.lots;
    }

    private boolean isTrick(int trick) {
        return trick >= 0 && trick < terms.tricks;
    }

    private void callClerk() {
        clerk.serve(terms, inForce >= 0 && inForce < ruleCount ? rules[inForce] : null);
    }

    private void beginAsking() {
        callClerk();
        asked.copyFrom(state);
    }

    /** The lot by which the bidder is silent; NONE without one. */
    private int roomOf(int bidder) {
        return isBidder(bidder) ? roomOfAll(1 << bidder) : NONE;
    }

    /** The lot by which all of the set are silent; NONE without one. */
    private int roomOfAll(int bidders) {
        for (int lot = 0; lot < terms.lots; lot++) {
            if ((bidders & ~state.silentAt[lot]) == 0) {
                return lot;
            }
        }
        return NONE;
    }

    private int keeperOf(int bidders, int lot) {
        int keeper = lowestOf(bidders);
        for (int one = 0; one < terms.bidders; one++) {
            if (isIn(one, bidders) && terms.worthTo(one, lot) > terms.worthTo(keeper, lot)) {
                keeper = one;
            }
        }
        return keeper;
    }

    private int gainsOf(int bidders) {
        int sum = 0;
        for (int one = 0; one < terms.bidders; one++) {
            sum += isIn(one, bidders) ? asked.gainOf(one, terms) : 0;
        }
        return sum;
    }

    private boolean nobodyHasMore(int bidders, int share) {
        for (int one = 0; one < terms.bidders; one++) {
            if (isIn(one, bidders) && asked.gainOf(one, terms) > share) {
                return false;
            }
        }
        return true;
    }

    private static boolean isBestAgainst(int worth, int mine, int theirs) {
        int gain = duelGain(worth, mine, theirs);
        for (int k = 0; k < 10; k++) {
            if (duelGain(worth, k * 10, theirs) > gain) {
                return false;
            }
        }
        return true;
    }

    private static int duelGain(int worth, int mine, int theirs) {
        return mine > theirs ? worth - theirs : 0;
    }

    private static boolean isIn(int one, int set) {
        return (set >> one & 1) != 0;
    }

    /** The least number in a set; 0 of an empty one. */
    private static int lowestOf(int set) {
        for (int k = 0; k < 31; k++) {
            if ((set >> k & 1) != 0) {
                return k;
            }
        }
        return 0;
    }

    private static int power(int base, int exponent) {
        int result = 1;
        for (int k = 0; k < exponent; k++) {
            result *= base;
        }
        return result;
    }

    /**
     * Writes a number as a row of choices less 1 (so that NONE comes first), the least bidder's choice weighing most:
     * rows then come in the document's order as the number goes up. Who is not in the set has NOT_THERE.
     */
    private static void spread(int number, int choices, int set, int[] row) {
        int rest = number;
        for (int one = row.length - 1; one >= 0; one--) {
            row[one] = NOT_THERE;
            if (isIn(one, set) && choices > 0) {
                row[one] = rest % choices - 1;
                rest /= choices;
            }
        }
    }

    /** The bytes that were fed, and a reader that stands at one of them, never at a blank. */
    private static final class Tape {
        private static final int END = -1;
        private static final int MOST_DIGITS = 5;

        private final int[] bytes = new int[MOST_BYTES];
        private int length = 0;
        private int at = 0;
        private int wordSize = 0;
        private int fault = 0;

        int size() {
            return length;
        }

        void put(int number) {
            for (int shift = 24; shift >= 0; shift -= 8) {
                if (length < MOST_BYTES) {
                    bytes[length] = number >> shift & 255;
                    length++;
                }
            }
        }

        void cut(int n) {
            if (n >= 0 && n <= length) {
                length = n;
            }
        }

        void rewind() {
            fault = 0;
            goTo(0);
        }

        private void goTo(int place) {
            at = place;
            while (at < length && bytes[at] == ' ') {
                at++;
            }
            wordSize = 0;
            while (at + wordSize < length && bytes[at + wordSize] >= 'a' && bytes[at + wordSize] <= 'z') {
                wordSize++;
            }
        }

        int place() {
            return at;
        }

        int firstFault() {
            return fault;
        }

        /** False, so that a reader can answer with it. */
        boolean refuse(int place, int kind) {
            if (fault == 0) {
                fault = 1 + 8 * place + kind;
            }
            return false;
        }

        /** The byte that comes next; END behind the last. */
        int sign() {
            return at < length ? bytes[at] : END;
        }

        /** The byte right behind the next one, be it a blank. */
        int signBehind() {
            return at + 1 < length ? bytes[at + 1] : END;
        }

        void skip(int many) {
            goTo(Math.min(length, at + many));
        }

        boolean take(char sign) {
            if (sign() != sign) {
                return false;
            }
            goTo(at + 1);
            return true;
        }

        boolean takeWord(String word) {
            if (whichWord(word) != 0) {
                return false;
            }
            passWord();
            return true;
        }

        void passWord() {
            goTo(at + wordSize);
        }

        /** Which of the words, parted by a blank each, comes next; NONE. */
        int whichWord(String words) {
            int which = 0;
            int letters = 0;
            boolean same = true;
            for (int k = 0; k <= words.length(); k++) {
                if (k == words.length() || words.charAt(k) == ' ') {
                    if (same && letters == wordSize) {
                        return which;
                    }
                    which++;
                    letters = 0;
                    same = true;
                } else {
                    same = same && letters < wordSize && bytes[at + letters] == words.charAt(k);
                    letters++;
                }
            }
            return NONE;
        }

        /** A NUMBER; NONE, and a fault, if none such comes. */
        int number(int least, int most) {
            int value = 0;
            int to = at;
            while (to < length && bytes[to] >= '0' && bytes[to] <= '9') {
                // Beyond five digits the value no longer matters, and must not go round.
                value = to - at < MOST_DIGITS ? value * 10 + bytes[to] - '0' : value;
                to++;
            }
            if (to == at) {
                refuse(at, FAULT_BYTE);
                return NONE;
            }
            if (to - at > MOST_DIGITS || value < least || value > most) {
                refuse(at, FAULT_NUMBER);
                return NONE;
            }
            goTo(to);
            return value;
        }

        /** Whether another clause comes behind this one; not so at the end, nor at a fault. */
        boolean anotherClause() {
            return at < length && (take(';') || refuse(at, FAULT_BYTE));
        }
    }

    /** A sale as its text tells it. */
    private static final class Terms {
        private static final int MOST_CLAUSES = 40;
        private static final String WORDS = "sale bidder lot worth trick";

        /** 0 as long as no sale was told. */
        int longest = 0;
        int bidders = 0;
        int lots = 0;
        int tricks = 0;
        final int[] purse = new int[MOST_BIDDERS];
        final int[] patience = new int[MOST_BIDDERS];
        final int[] worths = new int[MOST_BIDDERS * MOST_LOTS];
        final int[] price = new int[MOST_TRICKS];
        final int[] effect = new int[MOST_TRICKS];

        int worthTo(int bidder, int lot) {
            return worths[bidder * MOST_LOTS + lot];
        }

        /** What the lot is worth to the one of the set to whom it is worth most; 0 if the set is empty. */
        int mostWorth(int set, int lot) {
            int most = 0;
            for (int one = 0; one < bidders; one++) {
                most = isIn(one, set) ? Math.max(most, worths[one * MOST_LOTS + lot]) : most;
            }
            return most;
        }

        void copyFrom(Terms other) {
            longest = other.longest;
            bidders = other.bidders;
            lots = other.lots;
            tricks = other.tricks;
            System.arraycopy(other.purse, 0, purse, 0, MOST_BIDDERS);
            System.arraycopy(other.patience, 0, patience, 0, MOST_BIDDERS);
            System.arraycopy(other.worths, 0, worths, 0, MOST_BIDDERS * MOST_LOTS);
            System.arraycopy(other.price, 0, price, 0, MOST_TRICKS);
            System.arraycopy(other.effect, 0, effect, 0, MOST_TRICKS);
        }

        /** The first fault of the text; 0 without. */
        int readSale(Tape tape) {
            longest = 0;
            bidders = 0;
            lots = 0;
            tricks = 0;
            for (int k = 0; k < worths.length; k++) {
                worths[k] = 0;
            }
            tape.rewind();
            boolean more = true;
            for (int k = 0; more && k <= MOST_CLAUSES; k++) {
                more = readClause(tape, k) && tape.anotherClause();
            }
            return tape.firstFault();
        }

        private boolean readClause(Tape tape, int before) {
            int word = tape.whichWord(WORDS);
            if (word == NONE) {
                return tape.refuse(tape.place(), FAULT_BYTE);
            }
            if (before >= MOST_CLAUSES || (word == 0) != (before == 0) || isFull(word)) {
                return tape.refuse(tape.place(), FAULT_CLAUSE);
            }
            tape.passWord();
            switch (word) {
                case 0:
                    longest = tape.number(1, MOST_MINUTES);
                    return longest != NONE;
                case 1:
                    return readBidder(tape);
                case 2:
                    lots++;
                    return true;
                case 3:
                    return readWorth(tape);
                default:
                    return readTrick(tape);
            }
        }

        private boolean isFull(int word) {
            return word == 1 && bidders >= MOST_BIDDERS || word == 2 && lots >= MOST_LOTS
                    || word == 4 && tricks >= MOST_TRICKS;
        }

        private boolean readBidder(Tape tape) {
            int coins = tape.number(0, MOST_COINS);
            int minutes = coins == NONE ? NONE : tape.number(1, MOST_MINUTES);
            if (minutes == NONE || bidders >= MOST_BIDDERS) {
                return false;
            }
            purse[bidders] = coins;
            patience[bidders] = minutes;
            bidders++;
            return true;
        }

        private boolean readWorth(Tape tape) {
            int bidder = tape.number(0, bidders - 1);
            int lot = bidder == NONE ? NONE : tape.number(0, lots - 1);
            int value = lot == NONE ? NONE : tape.number(0, MOST_MINUTES);
            if (value == NONE) {
                return false;
            }
            worths[bidder * MOST_LOTS + lot] = value;
            return true;
        }

        private boolean readTrick(Tape tape) {
            int coins = tape.number(0, 99);
            int less = coins == NONE ? NONE : tape.number(1, 99);
            if (less == NONE || tricks >= MOST_TRICKS) {
                return false;
            }
            price[tricks] = coins;
            effect[tricks] = less;
            tricks++;
            return true;
        }
    }

    /**
     * A rule that says who speaks. It is kept as a row of steps, values ahead of what is done with them, and worked
     * out on a pile: a clause's sum lies at the bottom when its test is known.
     */
    private static final class Rule {
        private static final int MOST_CLAUSES = 12;
        private static final int MOST_DEEP = 10;
        private static final int MOST_PIECES = 60;
        private static final int MOST_NUMBER = 99999;
        private static final String WORDS = "bidder lot worth purse patience minute others tricked best rooms";
        private static final int BEST = 8;
        private static final int ROOMS = 9;

        private static final int ADD = 10;
        private static final int SUBTRACT = 11;
        private static final int MULTIPLY = 12;
        private static final int DIVIDE = 13;
        private static final int REST = 14;
        private static final int LESS = 15;
        private static final int LESS_OR_SAME = 16;
        private static final int SAME = 17;
        private static final int MORE_OR_SAME = 18;
        private static final int MORE = 19;
        private static final int AND = 20;
        private static final int OR = 21;
        private static final int NOT = 22;
        private static final int ANSWER = 23;
        private static final int ANSWER_IF = 24;
        private static final int FIRST_NUMBER = 100;

        private static final int BRACKET = 25;
        private static final int AND_WAITS = 1;
        private static final int OR_WAITS = 2;

        private final int[] steps = new int[MOST_BYTES];
        private final long[] words = new long[ROOMS + 1];
        private final long[] pile = new long[MOST_PIECES];
        private final int[] opened = new int[MOST_DEEP + 1];
        private final int[] waiting = new int[MOST_DEEP + 1];
        private int depth = 0;
        private int size = 0;
        private int pieces = 0;
        private int wordsUsed = 0;

        boolean usesRooms() {
            return isIn(ROOMS, wordsUsed);
        }

        /** The first fault of the text; 0 without. */
        int readRule(Tape tape) {
            size = 0;
            pieces = 0;
            wordsUsed = 0;
            tape.rewind();
            boolean more = true;
            for (int k = 0; more && k <= MOST_CLAUSES; k++) {
                boolean good = readHead(tape, k) && readSum(tape);
                if (good && tape.takeWord("if")) {
                    good = readTest(tape) && step(ANSWER_IF);
                } else {
                    good = good && step(ANSWER);
                }
                more = good && tape.anotherClause();
            }
            return tape.firstFault();
        }

        private static boolean readHead(Tape tape, int before) {
            if (tape.whichWord("speak") == NONE) {
                return tape.refuse(tape.place(), FAULT_BYTE);
            }
            if (before >= MOST_CLAUSES) {
                return tape.refuse(tape.place(), FAULT_CLAUSE);
            }
            tape.passWord();
            return true;
        }

        private boolean readTest(Tape tape) {
            depth = 0;
            waiting[0] = 0;
            for (int k = 0; k <= MOST_BYTES; k++) {
                int opening = tape.whichWord("not") == 0 ? NOT : tape.sign() == '[' ? BRACKET : 0;
                if (opening == 0) {
                    if (!readFact(tape) || !isFactToCome(tape)) {
                        return tape.firstFault() == 0;
                    }
                } else if (depth >= MOST_DEEP) {
                    return tape.refuse(tape.place(), FAULT_DEPTH);
                } else {
                    depth++;
                    opened[depth] = opening;
                    waiting[depth] = 0;
                    tape.skip(opening == NOT ? 3 : 1);
                }
            }
            return false;
        }

        /** Closes all that ends with the fact just read: whether the test goes on with another one. */
        private boolean isFactToCome(Tape tape) {
            for (int k = 0; k <= MOST_DEEP; k++) {
                while (depth > 0 && opened[depth] == NOT) {
                    step(NOT);
                    depth--;
                }
                stepIfWaiting(AND_WAITS, AND);
                if (tape.takeWord("and")) {
                    waiting[depth] |= AND_WAITS;
                    return true;
                }
                stepIfWaiting(OR_WAITS, OR);
                if (tape.takeWord("or")) {
                    waiting[depth] |= OR_WAITS;
                    return true;
                }
                if (depth == 0) {
                    return false;
                }
                if (!tape.take(']')) {
                    return tape.refuse(tape.place(), FAULT_BYTE);
                }
                depth--;
            }
            return false;
        }

        private void stepIfWaiting(int mark, int step) {
            if ((waiting[depth] & mark) != 0) {
                waiting[depth] &= ~mark;
                step(step);
            }
        }

        private boolean readFact(Tape tape) {
            if (!readSum(tape)) {
                return false;
            }
            int sign = tape.sign();
            if (sign != '<' && sign != '=' && sign != '>') {
                return tape.refuse(tape.place(), FAULT_BYTE);
            }
            if (!isRoomForPiece(tape, tape.place())) {
                return false;
            }
            boolean orSame = sign != '=' && tape.signBehind() == '=';
            int comparison = SAME;
            if (sign == '<') {
                comparison = orSame ? LESS_OR_SAME : LESS;
            } else if (sign == '>') {
                comparison = orSame ? MORE_OR_SAME : MORE;
            }
            tape.skip(orSame ? 2 : 1);
            return readSum(tape) && step(comparison);
        }

        /** Terms and their values in one loop: at the end of a term what joins it to the sum is done. */
        private boolean readSum(Tape tape) {
            int joinsTerm = 0;
            int joinsValue = 0;
            for (int k = 0; k <= MOST_PIECES; k++) {
                if (!readValue(tape)) {
                    return false;
                }
                if (joinsValue != 0) {
                    step(joinsValue);
                }
                int sign = tape.sign();
                joinsValue = sign == '*' ? MULTIPLY : sign == '/' ? DIVIDE : sign == '%' ? REST : 0;
                if (joinsValue == 0) {
                    if (joinsTerm != 0) {
                        step(joinsTerm);
                    }
                    joinsTerm = sign == '+' ? ADD : sign == '-' ? SUBTRACT : 0;
                    if (joinsTerm == 0) {
                        return true;
                    }
                }
                tape.skip(1);
            }
            return false;
        }

        private boolean readValue(Tape tape) {
            int place = tape.place();
            int word = tape.whichWord(WORDS);
            if (word == NONE) {
                int number = tape.number(0, MOST_NUMBER);
                return number != NONE && isRoomForPiece(tape, place) && step(FIRST_NUMBER + number);
            }
            tape.passWord();
            wordsUsed |= 1 << word;
            return isRoomForPiece(tape, place) && step(word);
        }

        private boolean isRoomForPiece(Tape tape, int place) {
            if (pieces >= MOST_PIECES) {
                return tape.refuse(place, FAULT_PIECE);
            }
            pieces++;
            return true;
        }

        private boolean step(int step) {
            // Each step has a byte of its own in the text, so that there is always room.
            if (size >= steps.length) {
                return false;
            }
            steps[size] = step;
            size++;
            return true;
        }

        /** Who of the set, all silent by the lot, speaks. */
        int speakersOf(int set, int lot, Terms terms, State state) {
            words[1] = lot;
            words[5] = state.gone[lot];
            words[6] = Integer.bitCount(state.silentAt[lot]) - 1;
            words[ROOMS] = Integer.bitCount(state.lotsAt(GOES_ON));
            int spoke = 0;
            for (int one = 0; one < MOST_BIDDERS; one++) {
                if (isIn(one, set)) {
                    words[0] = one;
                    words[2] = terms.worthTo(one, lot);
                    words[3] = state.purse[one];
                    words[4] = state.patience[one];
                    words[7] = state.tricked[one];
                    words[BEST] = isIn(BEST, wordsUsed) ? terms.mostWorth(state.silentAt[lot] & ~(1 << one), lot) : 0;
                    spoke |= workOut() > 0 ? 1 << one : 0;
                }
            }
            return spoke;
        }

        private long workOut() {
            int top = 0;
            for (int k = 0; k < size; k++) {
                int step = steps[k];
                if (step <= ROOMS || step >= FIRST_NUMBER) {
                    if (top >= MOST_PIECES) {
                        return 0;
                    }
                    pile[top] = step <= ROOMS ? words[step] : step - FIRST_NUMBER;
                    top++;
                } else if (top < 1) {
                    return 0;
                } else if (step == NOT) {
                    pile[top - 1] = 1 - pile[top - 1];
                } else if (step == ANSWER) {
                    return pile[0];
                } else if (step == ANSWER_IF) {
                    if (pile[top - 1] != 0) {
                        return pile[0];
                    }
                    top = 0;
                } else if (top < 2) {
                    return 0;
                } else {
                    top--;
                    pile[top - 1] = join(step, pile[top - 1], pile[top]);
                }
            }
            return 0;
        }

        private static long join(int step, long a, long b) {
            switch (step) {
                case ADD:
                    return a + b;
                case SUBTRACT:
                    return a - b;
                case MULTIPLY:
                    return a * b;
                case DIVIDE:
                    return b == 0 ? 0 : a / b;
                case REST:
                    return b == 0 ? 0 : a % b;
                case LESS:
                    return a < b ? 1 : 0;
                case LESS_OR_SAME:
                    return a <= b ? 1 : 0;
                case SAME:
                    return a == b ? 1 : 0;
                case MORE_OR_SAME:
                    return a >= b ? 1 : 0;
                case MORE:
                    return a > b ? 1 : 0;
                case AND:
                    return a & b;
                default:
                    return a | b;
            }
        }
    }

    /** How a sale stands at one time. */
    private static final class State {
        final int[] purse = new int[MOST_BIDDERS];
        final int[] patience = new int[MOST_BIDDERS];
        final int[] seat = new int[MOST_BIDDERS];
        final int[] tricked = new int[MOST_BIDDERS];
        final int[] stage = new int[MOST_LOTS];
        final int[] gone = new int[MOST_LOTS];
        final int[] owner = new int[MOST_LOTS];
        final int[] paid = new int[MOST_LOTS];
        final int[] silentAt = new int[MOST_LOTS];
        int minutes = 0;

        void copyFrom(State other) {
            System.arraycopy(other.purse, 0, purse, 0, MOST_BIDDERS);
            System.arraycopy(other.patience, 0, patience, 0, MOST_BIDDERS);
            System.arraycopy(other.seat, 0, seat, 0, MOST_BIDDERS);
            System.arraycopy(other.tricked, 0, tricked, 0, MOST_BIDDERS);
            System.arraycopy(other.stage, 0, stage, 0, MOST_LOTS);
            System.arraycopy(other.gone, 0, gone, 0, MOST_LOTS);
            System.arraycopy(other.owner, 0, owner, 0, MOST_LOTS);
            System.arraycopy(other.paid, 0, paid, 0, MOST_LOTS);
            System.arraycopy(other.silentAt, 0, silentAt, 0, MOST_LOTS);
            minutes = other.minutes;
        }

        /** All as the text told it. */
        void open(Terms terms) {
            for (int one = 0; one < MOST_BIDDERS; one++) {
                purse[one] = terms.purse[one];
                patience[one] = terms.patience[one];
                seat[one] = NONE;
                tricked[one] = 0;
            }
            for (int lot = 0; lot < MOST_LOTS; lot++) {
                stage[lot] = NOT_BEGUN;
                gone[lot] = 0;
                owner[lot] = NONE;
                paid[lot] = 0;
                silentAt[lot] = 0;
            }
            minutes = 0;
        }

        boolean isSilent(int bidder) {
            return isIn(bidder, silentOnes());
        }

        int silentOnes() {
            int all = 0;
            for (int lot = 0; lot < MOST_LOTS; lot++) {
                all |= silentAt[lot];
            }
            return all;
        }

        int sittersOf(int lot) {
            int all = 0;
            for (int one = 0; one < MOST_BIDDERS; one++) {
                all |= seat[one] == lot ? 1 << one : 0;
            }
            return all;
        }

        int lotsAt(int stageAsked) {
            int all = 0;
            for (int lot = 0; lot < MOST_LOTS; lot++) {
                all |= stage[lot] == stageAsked ? 1 << lot : 0;
            }
            return all;
        }

        int lotsOf(int bidder) {
            int all = 0;
            for (int lot = 0; lot < MOST_LOTS; lot++) {
                all |= owner[lot] == bidder ? 1 << lot : 0;
            }
            return all;
        }

        int lotsHad() {
            int all = 0;
            for (int lot = 0; lot < MOST_LOTS; lot++) {
                all += owner[lot] != NONE ? 1 : 0;
            }
            return all;
        }

        int allPaid() {
            int all = 0;
            for (int lot = 0; lot < MOST_LOTS; lot++) {
                all += paid[lot];
            }
            return all;
        }

        int gainOf(int bidder, Terms terms) {
            int gain = 0;
            for (int lot = 0; lot < MOST_LOTS; lot++) {
                gain += owner[lot] == bidder ? terms.worthTo(bidder, lot) - paid[lot] : 0;
            }
            return gain;
        }

        int allGains(Terms terms) {
            int all = 0;
            for (int one = 0; one < terms.bidders; one++) {
                all += gainOf(one, terms);
            }
            return all;
        }

        /** Its bell rings: how many are silent there by it, of whom a single one has the lot at once. */
        int begin(int lot) {
            int sitters = sittersOf(lot);
            int many = Integer.bitCount(sitters);
            stage[lot] = GOES_ON;
            gone[lot] = 0;
            silentAt[lot] = sitters;
            if (many == 1) {
                finish(lot, lowestOf(sitters), 0);
            }
            return many;
        }

        void finish(int lot, int who, int coins) {
            stage[lot] = OVER;
            silentAt[lot] = 0;
            owner[lot] = who;
            paid[lot] = coins;
            if (who >= 0 && who < MOST_BIDDERS) {
                purse[who] -= coins;
            }
            for (int one = 0; one < MOST_BIDDERS; one++) {
                seat[one] = seat[one] == lot ? NONE : seat[one];
            }
        }

        void breakOff(int lot) {
            stage[lot] = NOT_BEGUN;
            gone[lot] = 0;
            silentAt[lot] = 0;
        }

        boolean canTrick(int one, int other, int trick, Terms terms) {
            return isSilent(other) && purse[one] >= terms.price[trick] && patience[other] > terms.effect[trick];
        }

        void trickNow(int one, int other, int trick, Terms terms) {
            purse[one] -= terms.price[trick];
            patience[other] -= terms.effect[trick];
            tricked[other]++;
        }
    }

    /** The states ahead of the last acts, in rows that are used in turn. */
    private static final class Past {
        private final State[] states = new State[MOST_ACTS];
        private int next = 0;
        int size = 0;

        Past() {
            for (int k = 0; k < MOST_ACTS; k++) {
                states[k] = new State();
            }
        }

        void forget() {
            size = 0;
        }

        void keep(State state) {
            states[next].copyFrom(state);
            next = (next + 1) % MOST_ACTS;
            size = Math.min(MOST_ACTS, size + 1);
        }

        boolean takeBack(State state) {
            if (size == 0) {
                return false;
            }
            next = (next + MOST_ACTS - 1) % MOST_ACTS;
            state.copyFrom(states[next]);
            size--;
            return true;
        }
    }

    /** How lots were over in sales that were told. */
    private static final class Logs {
        private final int[] lots = new int[MOST_LOGS];
        private final int[] bidders = new int[MOST_LOGS];
        private final int[] coins = new int[MOST_LOGS];
        int size = 0;

        void clear() {
            size = 0;
        }

        boolean add(int lot, int bidder, int paid) {
            if (size >= MOST_LOGS) {
                return false;
            }
            lots[size] = lot;
            bidders[size] = bidder;
            // What nobody had was paid for by nobody: one number for all of these lets them be compared alike.
            coins[size] = bidder == NONE ? 0 : paid;
            size++;
            return true;
        }

        void copyFrom(Logs other) {
            System.arraycopy(other.lots, 0, lots, 0, MOST_LOGS);
            System.arraycopy(other.bidders, 0, bidders, 0, MOST_LOGS);
            System.arraycopy(other.coins, 0, coins, 0, MOST_LOGS);
            size = other.size;
        }

        /** Whether every log of the lot says that it was had by this one for so much. */
        boolean agree(int lot, int who, int paid) {
            for (int k = 0; k < size; k++) {
                if (lots[k] == lot && (bidders[k] != who || coins[k] != paid)) {
                    return false;
                }
            }
            return true;
        }
    }

    /** All but the tape and the rules, as it was. */
    private static final class Image {
        private final Terms terms = new Terms();
        private final State state = new State();
        private final Logs logs = new Logs();
        boolean made = false;
        int inForce = NONE;
        int x = 0;

        void takeFrom(Terms nowTerms, State nowState, Logs nowLogs) {
            terms.copyFrom(nowTerms);
            state.copyFrom(nowState);
            logs.copyFrom(nowLogs);
            made = true;
        }

        void giveBack(Terms toTerms, State toState, Logs toLogs) {
            toTerms.copyFrom(terms);
            toState.copyFrom(state);
            toLogs.copyFrom(logs);
        }
    }

    /** Lets minutes go by in the state it is given, by the terms and the rule it serves. */
    private static final class Clerk {
        private Terms terms = new Terms();
        private Rule rule = null;
        private int holder = 0;
        private long drawn = 0;

        /** A rule that is null stands for none. */
        void serve(Terms servedTerms, Rule servedRule) {
            terms = servedTerms;
            rule = servedRule;
            holder = 0;
        }

        /** This one speaks by a cough alone from now on. */
        void letHold(int bidder) {
            holder = 1 << bidder;
        }

        boolean mindsRooms() {
            return rule != null && rule.usesRooms();
        }

        /** A minute, in which the forced ones speak whatever a rule says: who speaks. */
        int pass(State state, int forced) {
            int spoke = 0;
            for (int lot = 0; lot < MOST_LOTS; lot++) {
                spoke |= passLot(state, lot, forced);
            }
            state.minutes++;
            return spoke;
        }

        void passMany(State state, int n) {
            for (int k = 0; k < n && state.lotsAt(GOES_ON) != 0; k++) {
                pass(state, 0);
            }
        }

        void passTillOver(State state, int lot) {
            for (int k = 0; k < MOST_MINUTES && state.stage[lot] == GOES_ON; k++) {
                pass(state, 0);
            }
        }

        /** Whether the bidder has the lot in the end; it goes on only until that can be told. */
        boolean passTillDecided(State state, int lot, int bidder) {
            for (int k = 0; k < MOST_MINUTES && isIn(bidder, state.silentAt[lot]); k++) {
                pass(state, 0);
            }
            return state.owner[lot] == bidder;
        }

        /** The part of a minute that is the lot's own, if it goes on: who speaks there. */
        int passLot(State state, int lot, int forced) {
            if (state.stage[lot] != GOES_ON) {
                return 0;
            }
            int silent = state.silentAt[lot];
            int asked = silent & ~forced & ~holder;
            int spoke = silent & forced;
            spoke |= rule == null ? unwillingOf(asked, lot, state) : rule.speakersOf(asked, lot, terms, state);
            spoke |= coughersOf(silent & ~spoke, state);
            state.silentAt[lot] = silent & ~spoke;
            state.gone[lot]++;
            settle(state, lot);
            return spoke;
        }

        private int unwillingOf(int set, int lot, State state) {
            int gone = state.gone[lot];
            int spoke = 0;
            for (int one = 0; one < MOST_BIDDERS; one++) {
                if (isIn(one, set) && (gone >= terms.worthTo(one, lot) || gone >= state.purse[one])) {
                    spoke |= 1 << one;
                }
            }
            return spoke;
        }

        private static int coughersOf(int set, State state) {
            int coughed = 0;
            for (int one = 0; one < MOST_BIDDERS; one++) {
                if (isIn(one, set)) {
                    state.patience[one] = Math.max(0, state.patience[one] - 1);
                    coughed |= state.patience[one] == 0 ? 1 << one : 0;
                }
            }
            return coughed;
        }

        private void settle(State state, int lot) {
            int left = state.silentAt[lot];
            if (Integer.bitCount(left) == 1) {
                int who = lowestOf(left);
                state.finish(lot, who, Math.min(state.gone[lot], state.purse[who]));
            } else if (left == 0 || state.gone[lot] >= terms.longest) {
                state.finish(lot, NONE, 0);
            }
        }

        void drawFrom(int x) {
            drawn = x;
        }

        /** Who is forced to speak by the draws ahead of a minute. */
        int drawCoughs(State state, int p) {
            int forced = 0;
            int silent = state.silentOnes();
            for (int one = 0; one < MOST_BIDDERS; one++) {
                if (isIn(one, silent)) {
                    drawn = (drawn * 1103515245L + 12345L) % 2147483648L;
                    forced |= drawn / 65536L % 100L < p ? 1 << one : 0;
                }
            }
            return forced;
        }
    }

    /** Finds where all had best sit. */
    private static final class Seating {
        private static final int SETS = 1 << MOST_BIDDERS;
        private static final int UNTRIED = -1000000;

        private final State trial = new State();
        private final int[] row = new int[MOST_BIDDERS];
        private final int[] gainsBySet = new int[MOST_LOTS * SETS];
        final int[] best = new int[MOST_BIDDERS];
        int gains = 0;

        void findSeats(Clerk clerk, Terms terms, State now) {
            int free = (1 << terms.bidders) - 1 & ~now.silentOnes();
            int choices = terms.lots + 1;
            int rows = power(choices, Integer.bitCount(free));
            // Rooms touch one another by the word rooms alone: without it each is worked out once for each set.
            boolean apart = !clerk.mindsRooms();
            if (apart) {
                workOutSets(clerk, terms, now, free);
            }
            gains = UNTRIED;
            for (int number = 0; number < rows; number++) {
                spread(number, choices, free, row);
                if (canSit(now)) {
                    int found = apart ? sumOfSets(terms, now) : courseGains(clerk, terms, now);
                    if (found > gains) {
                        gains = found;
                        System.arraycopy(row, 0, best, 0, MOST_BIDDERS);
                    }
                }
            }
        }

        private boolean canSit(State now) {
            for (int one = 0; one < MOST_BIDDERS; one++) {
                int lot = row[one];
                if (lot >= 0 && lot < MOST_LOTS && now.stage[lot] != NOT_BEGUN) {
                    return false;
                }
            }
            return true;
        }

        private int courseGains(Clerk clerk, Terms terms, State now) {
            trial.copyFrom(now);
            for (int one = 0; one < MOST_BIDDERS; one++) {
                trial.seat[one] = row[one] == NOT_THERE ? trial.seat[one] : row[one];
            }
            for (int lot = 0; lot < terms.lots; lot++) {
                ringIfSat(lot);
            }
            for (int k = 0; k < MOST_MINUTES && trial.lotsAt(GOES_ON) != 0; k++) {
                clerk.pass(trial, 0);
            }
            return trial.allGains(terms);
        }

        private void workOutSets(Clerk clerk, Terms terms, State now, int free) {
            int before = now.allGains(terms);
            for (int lot = 0; lot < terms.lots; lot++) {
                for (int set = 0; set < SETS; set++) {
                    boolean comes = set == 0 || now.stage[lot] == NOT_BEGUN && (set & ~free) == 0;
                    if (comes) {
                        gainsBySet[lot * SETS + set] = setGains(clerk, terms, now, lot, set) - before;
                    }
                }
            }
        }

        private int setGains(Clerk clerk, Terms terms, State now, int lot, int set) {
            trial.copyFrom(now);
            if (now.stage[lot] == NOT_BEGUN) {
                for (int one = 0; one < MOST_BIDDERS; one++) {
                    trial.seat[one] = isIn(one, set) ? lot : NONE;
                }
            }
            ringIfSat(lot);
            for (int k = 0; k < MOST_MINUTES && trial.stage[lot] == GOES_ON; k++) {
                clerk.passLot(trial, lot, 0);
            }
            return trial.allGains(terms);
        }

        private int sumOfSets(Terms terms, State now) {
            int sum = now.allGains(terms);
            for (int lot = 0; lot < terms.lots; lot++) {
                int set = 0;
                for (int one = 0; one < MOST_BIDDERS; one++) {
                    set |= row[one] == lot ? 1 << one : 0;
                }
                sum += gainsBySet[lot * SETS + set];
            }
            return sum;
        }

        private void ringIfSat(int lot) {
            if (trial.stage[lot] == NOT_BEGUN && trial.sittersOf(lot) != 0) {
                trial.begin(lot);
            }
        }
    }

    /** Finds the cheapest tricks by which one has the lot they are silent for. */
    private static final class Trickery {
        private final State trial = new State();
        private final int[] row = new int[MOST_BIDDERS];
        final int[] best = new int[MOST_BIDDERS];
        /** NONE: there are no such tricks. */
        int coins = NONE;

        void findTricks(Clerk clerk, Terms terms, State now, int bidder, int lot) {
            coins = NONE;
            int others = now.silentAt[lot] & ~(1 << bidder);
            int choices = terms.tricks + 1;
            int rows = power(choices, Integer.bitCount(others));
            for (int number = 0; number < rows; number++) {
                spread(number, choices, others, row);
                int cost = rowCost(terms);
                if ((coins == NONE || cost < coins) && playRow(terms, now, bidder)
                        && clerk.passTillDecided(trial, lot, bidder)) {
                    coins = cost;
                    System.arraycopy(row, 0, best, 0, MOST_BIDDERS);
                }
            }
        }

        private int rowCost(Terms terms) {
            int cost = 0;
            for (int one = 0; one < MOST_BIDDERS; one++) {
                int trick = row[one];
                cost += trick >= 0 && trick < MOST_TRICKS ? terms.price[trick] : 0;
            }
            return cost;
        }

        /** False if one of the tricks can't be: the row without it costs no more and stands ahead. */
        private boolean playRow(Terms terms, State now, int bidder) {
            trial.copyFrom(now);
            for (int other = 0; other < MOST_BIDDERS; other++) {
                int trick = row[other];
                if (trick >= 0 && trick < MOST_TRICKS) {
                    if (!trial.canTrick(bidder, other, trick, terms)) {
                        return false;
                    }
                    trial.trickNow(bidder, other, trick, terms);
                }
            }
            return true;
        }
    }

    /** Finds by which rules told sales may have come, none of them being the first of all. */
    private static final class Sleuth {
        private static final int MOST = MOST_RULES + 1;

        private final State trial = new State();
        private final int[] who = new int[MOST * MOST_LOTS];
        private final int[] coins = new int[MOST * MOST_LOTS];
        /** As bits: 0 for no rule, 1 more than its number for a rule. */
        int fitting = 0;

        void findRules(Clerk clerk, Terms terms, Rule[] rules, int ruleCount, Logs logs) {
            fitting = 0;
            for (int k = 0; k <= ruleCount && k < MOST; k++) {
                clerk.serve(terms, k == 0 ? null : rules[k - 1]);
                boolean fits = true;
                for (int lot = 0; lot < terms.lots; lot++) {
                    int at = k * MOST_LOTS + lot;
                    seatAllBy(lot, terms);
                    clerk.passTillOver(trial, lot);
                    who[at] = trial.owner[lot];
                    coins[at] = trial.paid[lot];
                    fits = fits && logs.agree(lot, who[at], coins[at]);
                }
                fitting |= fits ? 1 << k : 0;
            }
        }

        private void seatAllBy(int lot, Terms terms) {
            trial.open(terms);
            for (int one = 0; one < terms.bidders; one++) {
                trial.seat[one] = lot;
            }
            if (terms.bidders > 0) {
                trial.begin(lot);
            }
        }

        int howMany() {
            return Integer.bitCount(fitting);
        }

        /** How many of the fitting ones, at the most, sell the lot to the same one for the same. */
        int mostAlike(int lot) {
            int most = 0;
            for (int k = 0; k < MOST; k++) {
                most = isIn(k, fitting) ? Math.max(most, alike(k, lot)) : most;
            }
            return most;
        }

        private int alike(int one, int lot) {
            int many = 0;
            for (int k = 0; k < MOST; k++) {
                int at = k * MOST_LOTS + lot;
                boolean same = who[at] == who[one * MOST_LOTS + lot] && coins[at] == coins[one * MOST_LOTS + lot];
                many += isIn(k, fitting) && same ? 1 : 0;
            }
            return many;
        }
    }
}
