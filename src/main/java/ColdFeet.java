import java.util.NoSuchElementException;

/**
 * Insurance against cold feet: men who dare a burning house for things, by the looks that a crowd pays them.
 * The document DOC.md says what each call answers; words in capitals there are the words used here.
 */
public final class ColdFeet {
    public static final int NONE = -1;

    /** The document's other answer for "there is nothing": nobody, no thing, not by then. */
    private static final int NOTHING = -2;

    private static final int MOST_BYTES = 700;
    private static final int MOST_MEN = 6;
    private static final int MOST_THINGS = 8;
    private static final int MOST_LOOKS = 10;
    private static final int MOST_KNOTS = 64;
    private static final int MOST_OPEN = 8;
    private static final int MOST_SEEN = 24;
    private static final int MOST_DEEDS = 20;
    private static final int MOST_STEPS = 99;
    private static final int LAST_STEP = 9900;
    private static final int MOST_PREMIUM = 200;
    private static final int MOST_LASTS = 999;
    private static final int ROW = 4;

    private static final int OUTSIDE = 0;
    private static final int IN = 1;
    private static final int HURT = 2;

    private static final int LEFT = 0;
    private static final int TAKEN = 1;
    private static final int SAVED = 2;
    private static final int BURNT = 3;

    private static final int DARE = 0;
    private static final int AFTER = 1;
    private static final int HURTS = 2;
    private static final int LAWS = 3;

    /** No VALUE is so low, so it can stand for an ERROR. */
    private static final long ERROR = Long.MIN_VALUE;
    private static final long MOST_VALUE = 1000000000000L;

    private static final int CROWD = 0;
    private static final int GROWS = 1;
    private static final int GUST = 2;
    private static final int RISK = 3;
    private static final int SEED = 4;
    private static final int SETTINGS = 5;
    private static final int[] SETTING_WITHOUT = {99, 1, 0, 0, 0};
    private static final int[] SETTING_MOST = {999, 9, 100, 100, 99999};

    /** Ways a STEP may go, as bits: by numbers drawn (else as it goes), or with something left out. */
    private static final int AS_IT_GOES = 0;
    private static final int DRAWN = 1;
    private static final int NO_GUSTS = 2;
    private static final int NO_HURTS = 4;
    private static final int NO_BURNING = 8;
    private static final int NO_LOOKS = 16;

    private static final int PAID = 0;
    private static final int SWAPPED = 1;
    private static final int HELD = 2;
    private static final int WETTED = 3;

    private final byte[] tape = new byte[MOST_BYTES];
    private int tapeSize;
    private Plan plan = new Plan();
    /** The next TEXT is read into it, so that all stays with a FAULT. */
    private Plan spare = new Plan();
    private final TextReader reader = new TextReader(spare);
    private int faultKind;
    private int faultPlace = NONE;
    private final World now = new World(plan);
    private final World trial = new World(plan);
    private final World image = new World(plan);
    private boolean hasImage;
    private final Deeds deeds = new Deeds();
    private final Sight sight = new Sight();
    private final Matching matching = new Matching();
    private final int[] row = new int[ROW];
    private final int[] bestRow = new int[ROW];
    private final int[] premiums = new int[MOST_MEN];

    public ColdFeet() {
    }

    // ---- the TAPE and the TEXT

    public int feed(int a, int b, int c, int d, int e) {
        if (tapeSize + 20 > MOST_BYTES) {
            return NONE;
        }
        putFour(tapeSize, a);
        putFour(tapeSize + 4, b);
        putFour(tapeSize + 8, c);
        putFour(tapeSize + 12, d);
        putFour(tapeSize + 16, e);
        tapeSize += 20;
        return tapeSize;
    }

    private void putFour(int at, int four) {
        if (at < 0 || at + 4 > MOST_BYTES) {
            return;
        }
        for (int k = 0; k < 4; k++) {
            tape[at + k] = (byte) (four >>> (24 - 8 * k));
        }
    }

    public int text(int n) {
        if (n < 0 || n > tapeSize) {
            return NOTHING;
        }
        tapeSize = 0;
        int lines = reader.read(tape, n, spare);
        faultKind = reader.fault;
        faultPlace = reader.faultPlace;
        if (lines < 0) {
            return NONE;
        }
        Plan told = spare;
        spare = plan;
        plan = told;
        now.begin(plan);
        hasImage = false;
        deeds.size = 0;
        sight.clear();
        return lines;
    }

    public int fault(int what) {
        if (what == 0) {
            return faultKind;
        }
        return what == 1 ? faultPlace : NONE;
    }

    public int named(int what, int letters) {
        if (what == 0) {
            return find(plan.manNames, plan.men, letters);
        }
        return what == 1 ? find(plan.thingNames, plan.things, letters) : NONE;
    }

    private static int find(int[] names, int size, int name) {
        for (int k = 0; k < size && k < names.length; k++) {
            if (names[k] == name) {
                return k;
            }
        }
        return NONE;
    }

    // ---- what is now

    private boolean isMan(int man) {
        return man >= 0 && man < plan.men;
    }

    private boolean isThing(int thing) {
        return thing >= 0 && thing < plan.things;
    }

    public int man(int man, int what) throws IndexOutOfBoundsException, NoSuchElementException {
        if (!isMan(man)) {
            throw new IndexOutOfBoundsException("no such man");
        }
        switch (what) {
            case 0: return plan.fear[man];
            case 1: return now.rue[man];
            case 2: return plan.skill[man];
            case 3: return now.looks[man];
            case 4: return now.manState[man];
            case 5: return now.goal[man];
            case 6: return now.inside[man];
            case 7: return now.placeOf(man);
            case 8: return now.held[man] ? 1 : 0;
            default: throw new NoSuchElementException("no such what");
        }
    }

    public int thing(int thing, int what) {
        if (!isThing(thing)) {
            return NONE;
        }
        switch (what) {
            case 0: return plan.worth[thing];
            case 1: return plan.depth[thing];
            case 2: return now.lasts[thing];
            case 3: return now.thingState[thing];
            case 4: return now.goerFor(thing);
            default: return NONE;
        }
    }

    public long law(int what, int man) {
        if (what < 0 || what >= LAWS || !isMan(man)) {
            return ERROR;
        }
        now.setFacts(man, what == DARE ? now.freeThing() : now.goal[man], 0);
        return plan.laws.work(what);
    }

    public int count(int what) {
        switch (what) {
            case 0: return plan.men;
            case 1: return plan.things;
            case 2: return plan.laws.knots;
            case 3: return now.step;
            case 4: return now.thingsThatAre(SAVED);
            case 5: return now.thingsThatAre(BURNT);
            case 6: return now.menThatAre(HURT);
            case 7: return now.menThatAre(IN);
            case 8: return now.heat;
            case 9: return now.crowd;
            case 10: return now.savedWorth();
            case 11: return now.refused;
            case 12: return sight.size;
            case 13: return sight.knownSize();
            case 14: return deeds.size;
            default: return NONE;
        }
    }

    // ---- what is done by call

    public int pay(int man, int looks) {
        if (!isMan(man) || looks < 1 || looks > 99) {
            return NONE;
        }
        if (now.crowd < looks) {
            return NOTHING;
        }
        now.crowd -= looks;
        now.looks[man] += looks;
        deeds.note(PAID, man, looks);
        return now.crowd;
    }

    public boolean swap(int one, int other) {
        if (!areTwo(one, other)) {
            return false;
        }
        now.changePlaces(one, other);
        deeds.note(SWAPPED, one, other);
        return true;
    }

    private boolean areTwo(int one, int other) {
        return isMan(one) && isMan(other) && one != other;
    }

    public boolean hold(int man, boolean is) {
        if (!isMan(man) || now.held[man] == is) {
            return false;
        }
        now.held[man] = is;
        deeds.note(HELD, man, 0);
        return true;
    }

    public int wet(int thing, int more) {
        if (!isThing(thing) || more < 1 || more > 20 || now.thingState[thing] != LEFT) {
            return NONE;
        }
        deeds.note(WETTED, thing, now.lasts[thing]);
        now.lasts[thing] = Math.min(MOST_LASTS, now.lasts[thing] + more);
        return now.lasts[thing];
    }

    public int undo() {
        if (deeds.size < 1 || deeds.size > MOST_DEEDS) {
            return NONE;
        }
        deeds.size--;
        int which = deeds.which[deeds.size];
        int whom = deeds.whom[deeds.size];
        int how = deeds.how[deeds.size];
        if (which == WETTED) {
            undoWetting(whom, how);
        } else if (isMan(whom)) {
            undoToMan(which, whom, how);
        }
        return deeds.size;
    }

    private void undoWetting(int thing, int lasted) {
        if (isThing(thing)) {
            now.lasts[thing] = lasted;
        }
    }

    private void undoToMan(int which, int man, int how) {
        if (which == PAID) {
            now.crowd += how;
            now.looks[man] -= how;
        } else if (which == HELD) {
            now.held[man] = !now.held[man];
        } else {
            now.changePlaces(man, how);
        }
    }

    public int go(int n) {
        if (n < 0 || n > MOST_STEPS || now.step + n > LAST_STEP) {
            return NONE;
        }
        for (int k = 0; k < n; k++) {
            now.pass(DRAWN);
        }
        if (n > 0) {
            deeds.size = 0;
        }
        return now.step;
    }

    public int keep() {
        image.become(now);
        hasImage = true;
        return now.step;
    }

    public int back() {
        if (!hasImage) {
            return NONE;
        }
        now.become(image);
        deeds.size = 0;
        return now.step;
    }

    // ---- what comes

    private static boolean isCount(int n) {
        return n >= 0 && n <= MOST_STEPS;
    }

    public int ahead(int n, int what) {
        if (!isCount(n) || what < 0 || what > 4) {
            return NONE;
        }
        trial.become(now);
        for (int k = 0; k < n; k++) {
            trial.pass(AS_IT_GOES);
        }
        switch (what) {
            case 0: return trial.thingsThatAre(SAVED) - now.thingsThatAre(SAVED);
            case 1: return trial.thingsThatAre(BURNT) - now.thingsThatAre(BURNT);
            case 2: return trial.menThatAre(HURT) - now.menThatAre(HURT);
            case 3: return trial.heat;
            default: return trial.crowd;
        }
    }

    public int goes(int man) {
        if (!isMan(man)) {
            return NONE;
        }
        trial.become(now);
        for (int k = 1; k <= MOST_STEPS; k++) {
            trial.pass(AS_IT_GOES);
            if ((trial.wentIn >> man & 1) != 0) {
                return k;
            }
        }
        return NOTHING;
    }

    public int out(int thing) {
        if (!isThing(thing)) {
            return NONE;
        }
        trial.become(now);
        for (int k = 0; k <= MOST_STEPS; k++) {
            if (trial.thingState[thing] == SAVED) {
                return k;
            }
            trial.pass(AS_IT_GOES);
        }
        return NOTHING;
    }

    public int tried(int what, int i, int n) {
        if (what < 0 || what > 5 || !isCount(n) || (what == 2 ? !isMan(i) : i != 0)) {
            return NONE;
        }
        trial.become(now);
        if (what == 2) {
            trial.held[i] = true;
        }
        int way = wayTried(what);
        for (int k = 0; k < n; k++) {
            trial.pass(way);
        }
        return trial.thingsThatAre(SAVED) - now.thingsThatAre(SAVED);
    }

    private static int wayTried(int what) {
        switch (what) {
            case 1: return NO_GUSTS;
            case 3: return NO_HURTS;
            case 4: return NO_BURNING;
            case 5: return NO_LOOKS;
            default: return AS_IT_GOES;
        }
    }

    public int chance(int seed, int n, int things) {
        if (seed < 0 || n < 1 || n > MOST_STEPS || things < 0 || things > MOST_THINGS) {
            return NONE;
        }
        int number = seed;
        int times = 0;
        for (int k = 0; k < 10; k++) {
            trial.become(now);
            trial.number = number;
            for (int s = 0; s < n; s++) {
                trial.pass(DRAWN);
            }
            number = trial.number;
            if (trial.thingsThatAre(SAVED) >= things) {
                times++;
            }
        }
        return times;
    }

    // ---- premiums

    public int premium(int man) {
        return isMan(man) ? premiumOf(man, now.freeThing()) : NONE;
    }

    private int premiumOf(int man, int thing) {
        if (thing < 0 || now.manState[man] != OUTSIDE) {
            return NOTHING;
        }
        for (int more = 0; more <= MOST_PREMIUM; more++) {
            if (now.dares(man, thing, more)) {
                return more;
            }
        }
        return NOTHING;
    }

    public int cover(int men) {
        if (men < 0 || men > MOST_MEN) {
            return NONE;
        }
        int size = sortPremiums();
        if (men > size) {
            return NOTHING;
        }
        int sum = 0;
        for (int k = 0; k < men; k++) {
            sum += premiums[k];
        }
        return sum;
    }

    /** Puts the PREMIUMS of MEN that aren't HELD in a row, the least first: how many there are. */
    private int sortPremiums() {
        int thing = now.freeThing();
        int size = 0;
        for (int man = 0; man < plan.men && man < MOST_MEN; man++) {
            int premium = now.held[man] ? NOTHING : premiumOf(man, thing);
            if (premium >= 0) {
                putInOrder(premiums, size, premium);
                size++;
            }
        }
        return size;
    }

    private static void putInOrder(int[] sorted, int size, int value) {
        if (size < 0 || size >= sorted.length) {
            return;
        }
        int at = size;
        for (; at > 0 && sorted[at - 1] > value; at--) {
            sorted[at] = sorted[at - 1];
        }
        sorted[at] = value;
    }

    // ---- whom for what

    public int match(int what) {
        if (what < 0 || what > MOST_MEN) {
            return NONE;
        }
        int worth = matching.solve(now);
        return what == MOST_MEN ? worth : matching.thingOf[what];
    }

    public int next(int thing) {
        if (!isThing(thing)) {
            return NONE;
        }
        int best = NOTHING;
        int most = plan.depth[thing] - 1;
        for (int place = 0; place < plan.men && place < MOST_MEN; place++) {
            int man = now.rank[place];
            if (isMan(man) && now.manState[man] == OUTSIDE && !now.held[man] && plan.skill[man] > most) {
                best = man;
                most = plan.skill[man];
            }
        }
        return best;
    }

    public int order(int what) {
        if (what < 0 || what > ROW) {
            return NONE;
        }
        int size = Math.min(ROW, plan.men);
        for (int k = 0; k < size; k++) {
            putInOrder(row, k, now.rank[k]);
        }
        int most = NONE;
        for (int k = 0; k < 24; k++) {
            int worth = worthOfRow(size);
            if (worth > most) {
                most = worth;
                System.arraycopy(row, 0, bestRow, 0, size);
            }
            if (!turnRow(size)) {
                break;
            }
        }
        if (what == ROW) {
            return most;
        }
        return what < size ? bestRow[what] : NOTHING;
    }

    /** WORTH of what is SAVED in the 30 STEPS: what was SAVED ahead of them doesn't count. */
    private int worthOfRow(int size) {
        trial.become(now);
        for (int k = 0; k < size && k < ROW; k++) {
            trial.rank[k] = row[k];
        }
        for (int k = 0; k < 30; k++) {
            trial.pass(AS_IT_GOES);
        }
        return trial.savedWorth() - now.savedWorth();
    }

    /** Makes the row the next one by MEN; false: it was the last one. */
    private boolean turnRow(int size) {
        int at = size - 2;
        while (at >= 0 && row[at] > row[at + 1]) {
            at--;
        }
        if (at < 0) {
            return false;
        }
        int with = size - 1;
        while (with > at + 1 && row[with] < row[at]) {
            with--;
        }
        changeInRow(at, with);
        int low = at + 1;
        for (int high = size - 1; low < high; high--) {
            changeInRow(low, high);
            low++;
        }
        return true;
    }

    private void changeInRow(int one, int other) {
        if (one < 0 || other < 0 || one >= ROW || other >= ROW) {
            return;
        }
        int man = row[one];
        row[one] = row[other];
        row[other] = man;
    }

    // ---- two who go or wait

    public int rests(int one, int other) {
        if (!areTwo(one, other)) {
            return NONE;
        }
        int size = 0;
        for (int k = 0; k < 4; k++) {
            if (isRest(one, other, k)) {
                size++;
            }
        }
        return size;
    }

    public int rest(int one, int other, int k) {
        if (!areTwo(one, other) || k < 0) {
            return NONE;
        }
        int left = k;
        for (int pair = 0; pair < 4; pair++) {
            if (isRest(one, other, pair)) {
                if (left == 0) {
                    return 10 * (pair >> 1) + (pair & 1);
                }
                left--;
            }
        }
        return NOTHING;
    }

    /** A pair: the first one's in bit 1, the second one's in bit 0 (0 goes, 1 waits). */
    private boolean isRest(int one, int other, int pair) {
        int first = pair >> 1;
        int second = pair & 1;
        return gain(one, first, second) >= gain(one, 1 - first, second)
            && gain(other, second, first) >= gain(other, 1 - second, first);
    }

    private int gain(int man, int own, int others) {
        if (!isMan(man)) {
            return 0;
        }
        if (own == 0) {
            int share = others == 0 ? plan.fear[man] / 4 : plan.fear[man] / 2;
            return now.rue[man] - share;
        }
        return others == 0 ? -(now.rue[man] / 2) : 0;
    }

    // ---- odds and years

    public long comesBack(int n, int what) {
        if (n < 0 || n > 6 || what < 0 || what > 1) {
            return NONE;
        }
        int above = 100 - plan.settings[RISK];
        int divisor = commonDivisor(100, above);
        int base = what == 0 ? above : 100;
        long least = divisor > 0 ? base / divisor : base;
        long power = 1;
        for (int k = 0; k < n; k++) {
            power *= least;
        }
        return power;
    }

    private static int commonDivisor(int one, int other) {
        int high = one;
        int low = other;
        for (int k = 0; k < 40 && low != 0; k++) {
            int left = high % low;
            high = low;
            low = left;
        }
        return high;
    }

    public int widow(int man, int n) {
        if (!isMan(man) || !isCount(n)) {
            return NONE;
        }
        int year = now.rue[man];
        int sum = 0;
        for (int k = 0; k < n; k++) {
            sum += year;
            year = year * 9 / 10;
        }
        return sum;
    }

    // ---- what was SEEN

    public int see(int steps, int thing, boolean isSaved) {
        if (steps < 1 || steps > Sight.MOST_AFTER || !isThing(thing)) {
            return NONE;
        }
        return sight.note(steps, thing, isSaved, NONE);
    }

    public int strike(int seen) {
        if (seen < 0 || seen >= sight.size) {
            return NONE;
        }
        return sight.note(0, 0, false, seen);
    }

    public boolean known(int n) {
        if (n < NONE || n > sight.size) {
            return false;
        }
        sight.knownBy = n;
        return true;
    }

    public int rues(int man) {
        if (!isMan(man)) {
            return NONE;
        }
        int last = sight.markKnown();
        int bits = 0;
        for (int k = 0; k < 10; k++) {
            if (agrees(man, 10 * k, last)) {
                bits |= 1 << k;
            }
        }
        return bits;
    }

    private boolean agrees(int man, int rue, int last) {
        trial.begin(plan);
        trial.rue[man] = rue;
        for (int steps = 1; steps <= last; steps++) {
            trial.pass(AS_IT_GOES);
            if (!sight.fits(steps, trial.thingState)) {
                return false;
            }
        }
        return true;
    }

    // ---- classes inside

    /** The kinds of TOKENS; of those in E also the kinds of KNOTS. */
    private static final class Token {
        static final int END = 0;
        static final int BAD = 1;
        /** A word of 1 .. 6 letters that is none of the language. */
        static final int FREE = 2;
        static final int NUMBER = 3;
        static final int SEMICOLON = 4;
        static final int OPEN = 5;
        static final int CLOSE = 6;
        static final int MAN = 7;
        static final int THING = 8;
        static final int LOOK = 9;
        static final int CROWD = 10;
        static final int SEED = 14;
        static final int LAW = 15;
        static final int DARE = 16;
        static final int FEAR = 19;
        static final int STEP = 25;
        static final int OR = 26;
        static final int AND = 27;
        static final int NOT = 28;
        static final int LESS = 29;
        static final int LESS_OR_SAME = 30;
        static final int SAME = 31;
        static final int OTHER = 32;
        static final int MORE_OR_SAME = 33;
        static final int MORE = 34;
        static final int PLUS = 35;
        static final int MINUS = 36;
        static final int TIMES = 37;
        static final int BY = 38;

        /** The words of the language as named() has letters, from MAN on in the order of the kinds. */
        static final int[] WORDS = {
            437714944, // man
            679786720, // thing
            418884608, // look
            120052864, // crowd
            273731584, // heat
            257544192, // gust
            614050816, // risk
            642945024, // seed
            404455424, // law
            135861248, // dare
            40506944, // after
            291065856, // hurt
            206620672, // fear
            626163712, // rue
            649376128, // skill
            418885216, // looks
            284819456, // hot
            140005632, // depth
            658685952, // step
            522190848, // or
            48365568, // and
            486146048, // not
        };
    }

    /** Cuts a TEXT into TOKENS. */
    private static final class TokenCutter {
        static final int MOST_LETTERS = 6;
        /** A number beyond all that is said stays here. */
        static final int MOST_NUMBER = 1000000;

        private byte[] bytes = new byte[0];
        private int length;
        private int at;
        /** How many TOKENS, the one of the END too. */
        int size;
        final int[] kinds = new int[MOST_BYTES + 1];
        final int[] places = new int[MOST_BYTES + 1];
        /** A number, or the letters of a word as named() has them. */
        final int[] values = new int[MOST_BYTES + 1];

        void scan(byte[] from, int n) {
            bytes = from;
            length = Math.min(n, from.length);
            at = 0;
            size = 0;
            boolean isEnd = false;
            for (int k = 0; k <= MOST_BYTES && !isEnd; k++) {
                skipBlanks();
                places[k] = at;
                values[k] = 0;
                kinds[k] = takeToken(k);
                isEnd = kinds[k] == Token.END;
                size = k + 1;
            }
        }

        private void skipBlanks() {
            while (at < length && (bytes[at] == 32 || bytes[at] == 10)) {
                at++;
            }
        }

        private int takeToken(int k) {
            int sign = peek();
            if (sign == NONE) {
                return Token.END;
            }
            if (isLetter(sign)) {
                return takeWord(k);
            }
            if (isDigit(sign)) {
                return takeNumber(k);
            }
            at++;
            return takeSign(sign);
        }

        private int peek() {
            return at >= 0 && at < length ? bytes[at] & 255 : NONE;
        }

        private static boolean isLetter(int sign) {
            return sign >= 'a' && sign <= 'z';
        }

        private static boolean isDigit(int sign) {
            return sign >= '0' && sign <= '9';
        }

        private int takeWord(int k) {
            int start = at;
            int letters = 0;
            while (at < length && isLetter(peek())) {
                if (at - start < MOST_LETTERS) {
                    letters |= (peek() - 'a' + 1) << (25 - 5 * (at - start));
                }
                at++;
            }
            if (at - start > MOST_LETTERS) {
                return Token.BAD;
            }
            values[k] = letters;
            int word = find(Token.WORDS, Token.WORDS.length, letters);
            return word < 0 ? Token.FREE : Token.MAN + word;
        }

        private int takeNumber(int k) {
            int number = 0;
            while (at < length && isDigit(peek())) {
                number = Math.min(MOST_NUMBER, number * 10 + peek() - '0');
                at++;
            }
            values[k] = number;
            return Token.NUMBER;
        }

        private int takeSign(int sign) {
            switch (sign) {
                case ';': return Token.SEMICOLON;
                case '(': return Token.OPEN;
                case ')': return Token.CLOSE;
                case '+': return Token.PLUS;
                case '-': return Token.MINUS;
                case '*': return Token.TIMES;
                case '/': return Token.BY;
                case '=': return Token.SAME;
                case '<':
                    if (takes('=')) {
                        return Token.LESS_OR_SAME;
                    }
                    return takes('>') ? Token.OTHER : Token.LESS;
                case '>': return takes('=') ? Token.MORE_OR_SAME : Token.MORE;
                default: return Token.BAD;
            }
        }

        private boolean takes(int sign) {
            if (peek() != sign) {
                return false;
            }
            at++;
            return true;
        }
    }

    /** Reads a TEXT into a Plan, up to its first FAULT. */
    private static final class TextReader {
        static final int WRONG_TOKEN = 1;
        static final int TOO_MUCH = 2;
        static final int TOLD = 3;
        static final int NOT_TOLD = 4;
        static final int MOST_OF_FORMULA = 9999;
        static final int MOST_WAITING = MOST_KNOTS + MOST_OPEN;
        /** The level at which comparisons bind. */
        static final int COMPARISON = 4;

        int fault;
        int faultPlace = NONE;
        private final TokenCutter cutter = new TokenCutter();
        private Plan plan;
        private int nextToken;
        private int kind;
        private int place;
        private int value;
        private final int[] waiting = new int[MOST_WAITING];
        private final int[] waitingLevel = new int[MOST_WAITING];
        private int waits;
        private int opened;
        private boolean isOperandDue;
        private boolean isPlaceOfNot;

        TextReader(Plan into) {
            plan = into;
        }

        /** How many LINES; NONE with a FAULT. */
        int read(byte[] bytes, int n, Plan into) {
            fault = 0;
            faultPlace = NONE;
            plan = into;
            plan.clear();
            cutter.scan(bytes, n);
            nextToken = 0;
            for (int lines = 0; lines <= MOST_BYTES; lines++) {
                advance();
                if (kind == Token.END) {
                    return lines;
                }
                if (!readLine()) {
                    return NONE;
                }
            }
            return NONE;
        }

        private void advance() {
            if (nextToken >= 0 && nextToken < cutter.size) {
                kind = cutter.kinds[nextToken];
                place = cutter.places[nextToken];
                value = cutter.values[nextToken];
                nextToken++;
            }
        }

        /** Every FAULT is found at the latest TOKEN, so the first one found is the first along the text. */
        private boolean fails(int faultFound) {
            fault = faultFound;
            faultPlace = place;
            return false;
        }

        private boolean readLine() {
            if (kind >= Token.CROWD && kind <= Token.SEED) {
                return readSetting(kind - Token.CROWD);
            }
            switch (kind) {
                case Token.MAN: return readMan();
                case Token.THING: return readThing();
                case Token.LOOK: return readLook();
                case Token.LAW: return readLaw();
                default: return fails(WRONG_TOKEN);
            }
        }

        private boolean reads(int kindDue) {
            advance();
            return kind == kindDue || fails(WRONG_TOKEN);
        }

        private boolean readsNumber(int least, int most) {
            if (!reads(Token.NUMBER)) {
                return false;
            }
            return value >= least && value <= most || fails(TOO_MUCH);
        }

        private boolean readsNewName(int[] names, int size) {
            if (!reads(Token.FREE)) {
                return false;
            }
            return find(names, size, value) < 0 || fails(TOLD);
        }

        private boolean readMan() {
            int man = plan.men;
            if (man < 0 || man >= MOST_MEN) {
                return fails(TOO_MUCH);
            }
            if (!readsNewName(plan.manNames, man)) {
                return false;
            }
            plan.manNames[man] = value;
            if (!readsNumber(0, 99)) {
                return false;
            }
            plan.fear[man] = value;
            if (!readsNumber(0, 99)) {
                return false;
            }
            plan.rue[man] = value;
            if (!readsNumber(1, 9)) {
                return false;
            }
            plan.skill[man] = value;
            plan.men++;
            return reads(Token.SEMICOLON);
        }

        private boolean readThing() {
            int thing = plan.things;
            if (thing < 0 || thing >= MOST_THINGS) {
                return fails(TOO_MUCH);
            }
            if (!readsNewName(plan.thingNames, thing)) {
                return false;
            }
            plan.thingNames[thing] = value;
            if (!readsNumber(1, 99)) {
                return false;
            }
            plan.worth[thing] = value;
            if (!readsNumber(1, 6)) {
                return false;
            }
            plan.depth[thing] = value;
            if (!readsNumber(0, 99)) {
                return false;
            }
            plan.lasts[thing] = value;
            plan.things++;
            return reads(Token.SEMICOLON);
        }

        private boolean readLook() {
            int look = plan.looks;
            if (look < 0 || look >= MOST_LOOKS) {
                return fails(TOO_MUCH);
            }
            if (!reads(Token.FREE)) {
                return false;
            }
            int man = find(plan.manNames, plan.men, value);
            if (man < 0) {
                return fails(NOT_TOLD);
            }
            plan.lookMan[look] = man;
            if (!readsNumber(0, 99)) {
                return false;
            }
            plan.lookStep[look] = value;
            if (!readsNumber(1, 99)) {
                return false;
            }
            plan.lookSize[look] = value;
            plan.looks++;
            return reads(Token.SEMICOLON);
        }

        private boolean readSetting(int setting) {
            if (setting < 0 || setting >= SETTINGS) {
                return fails(WRONG_TOKEN);
            }
            if (plan.isTold[setting]) {
                return fails(TOLD);
            }
            plan.isTold[setting] = true;
            if (!readsNumber(0, SETTING_MOST[setting])) {
                return false;
            }
            plan.settings[setting] = value;
            return reads(Token.SEMICOLON);
        }

        /** Signs wait on a stack until one that binds no closer comes, so KNOTS are told behind their parts. */
        private boolean readLaw() {
            advance();
            int law = kind - Token.DARE;
            if (law < 0 || law >= LAWS) {
                return fails(WRONG_TOKEN);
            }
            Laws laws = plan.laws;
            if (laws.start[law] >= 0) {
                return fails(TOLD);
            }
            laws.start[law] = laws.size;
            waits = 0;
            opened = 0;
            isOperandDue = true;
            isPlaceOfNot = true;
            for (int k = 0; k <= MOST_BYTES; k++) {
                advance();
                if (!isOperandDue && kind == Token.SEMICOLON && opened == 0) {
                    release(1);
                    laws.end[law] = laws.size;
                    return true;
                }
                if (!(isOperandDue ? takeOperand() : takeOperator())) {
                    return false;
                }
            }
            return fails(WRONG_TOKEN);
        }

        private boolean takeOperand() {
            if (kind == Token.OPEN) {
                return takeOpen();
            }
            boolean isNot = kind == Token.NOT && isPlaceOfNot;
            boolean isNumber = kind == Token.NUMBER;
            boolean isName = kind >= Token.FEAR && kind <= Token.STEP;
            if (!isNot && !isNumber && !isName) {
                return fails(WRONG_TOKEN);
            }
            if (isNumber && value > MOST_OF_FORMULA || plan.laws.knots >= MOST_KNOTS) {
                return fails(TOO_MUCH);
            }
            plan.laws.knots++;
            if (isNot) {
                putWaiting(levelOf(kind));
            } else {
                plan.laws.tell(kind, value);
                isOperandDue = false;
            }
            return true;
        }

        private boolean takeOpen() {
            if (opened >= MOST_OPEN) {
                return fails(TOO_MUCH);
            }
            opened++;
            isPlaceOfNot = true;
            putWaiting(0);
            return true;
        }

        private boolean takeOperator() {
            if (kind == Token.CLOSE && opened > 0) {
                release(1);
                opened--;
                waits = Math.max(0, waits - 1);
                return true;
            }
            int level = kind == Token.NOT ? 0 : levelOf(kind);
            if (level < 1) {
                return fails(WRONG_TOKEN);
            }
            boolean isComparison = level == COMPARISON;
            release(isComparison ? COMPARISON + 1 : level);
            if (isComparison && waits > 0 && waitingLevel[waits - 1] == COMPARISON) {
                return fails(WRONG_TOKEN);
            }
            if (plan.laws.knots >= MOST_KNOTS) {
                return fails(TOO_MUCH);
            }
            plan.laws.knots++;
            putWaiting(level);
            isOperandDue = true;
            isPlaceOfNot = kind == Token.AND || kind == Token.OR;
            return true;
        }

        /** A '(' waits at level 0, so that nothing below it is released ahead of its ')'. */
        private void putWaiting(int level) {
            if (waits >= 0 && waits < MOST_WAITING) {
                waiting[waits] = kind;
                waitingLevel[waits] = level;
                waits++;
            }
        }

        /** Tells the waiting signs that bind as close as the level at least. */
        private void release(int level) {
            while (waits > 0 && waitingLevel[waits - 1] >= level) {
                waits--;
                plan.laws.tell(waiting[waits], 0);
            }
        }

        /** How close a sign of E binds; 0: it is none. */
        private static int levelOf(int sign) {
            switch (sign) {
                case Token.OR: return 1;
                case Token.AND: return 2;
                case Token.NOT: return 3;
                case Token.PLUS:
                case Token.MINUS: return 5;
                case Token.TIMES:
                case Token.BY: return 6;
                default: return sign >= Token.LESS && sign <= Token.MORE ? COMPARISON : 0;
            }
        }
    }

    /** What a TEXT tells. */
    private static final class Plan {
        int men;
        final int[] manNames = new int[MOST_MEN];
        final int[] fear = new int[MOST_MEN];
        final int[] rue = new int[MOST_MEN];
        final int[] skill = new int[MOST_MEN];
        int things;
        final int[] thingNames = new int[MOST_THINGS];
        final int[] worth = new int[MOST_THINGS];
        final int[] depth = new int[MOST_THINGS];
        final int[] lasts = new int[MOST_THINGS];
        int looks;
        final int[] lookMan = new int[MOST_LOOKS];
        final int[] lookStep = new int[MOST_LOOKS];
        final int[] lookSize = new int[MOST_LOOKS];
        final int[] settings = new int[SETTINGS];
        final boolean[] isTold = new boolean[SETTINGS];
        final Laws laws = new Laws();

        Plan() {
            System.arraycopy(SETTING_WITHOUT, 0, settings, 0, SETTINGS);
        }

        void clear() {
            men = 0;
            things = 0;
            looks = 0;
            for (int k = 0; k < SETTINGS; k++) {
                settings[k] = SETTING_WITHOUT[k];
                isTold[k] = false;
            }
            laws.clear();
        }
    }

    /** The three laws as rows of KNOTS, each behind its parts. */
    private static final class Laws {
        int knots;
        int size;
        final int[] start = {NONE, NONE, NONE};
        final int[] end = {NONE, NONE, NONE};
        private final int[] kinds = new int[MOST_KNOTS];
        private final int[] numbers = new int[MOST_KNOTS];
        /** What the NAMES fear .. step are. */
        final long[] facts = new long[Token.STEP - Token.FEAR + 1];
        private final long[] stack = new long[MOST_KNOTS];

        void clear() {
            knots = 0;
            size = 0;
            for (int law = 0; law < LAWS; law++) {
                start[law] = NONE;
                end[law] = NONE;
            }
        }

        void tell(int kind, int number) {
            if (size >= 0 && size < MOST_KNOTS) {
                kinds[size] = kind;
                numbers[size] = number;
                size++;
            }
        }

        /** The law's E by the facts; ERROR: with one, or there is no such law. */
        long work(int law) {
            if (law < 0 || law >= LAWS || start[law] < 0) {
                return ERROR;
            }
            int top = 0;
            for (int k = start[law]; k < end[law] && k < MOST_KNOTS; k++) {
                int kind = kinds[k];
                if (kind == Token.NOT) {
                    if (top < 1) {
                        return ERROR;
                    }
                    stack[top - 1] = stack[top - 1] == 0 ? 1 : 0;
                } else if (kind >= Token.OR) {
                    if (top < 2) {
                        return ERROR;
                    }
                    top--;
                    stack[top - 1] = combine(kind, stack[top - 1], stack[top]);
                    if (stack[top - 1] == ERROR) {
                        return ERROR;
                    }
                } else {
                    if (top >= MOST_KNOTS) {
                        return ERROR;
                    }
                    stack[top] = valueOf(kind, numbers[k]);
                    top++;
                }
            }
            return top == 1 ? stack[0] : ERROR;
        }

        private long valueOf(int kind, int number) {
            int fact = kind - Token.FEAR;
            return fact >= 0 && fact < facts.length ? facts[fact] : number;
        }

        private static long combine(int kind, long a, long b) {
            long value;
            switch (kind) {
                case Token.OR: return a != 0 || b != 0 ? 1 : 0;
                case Token.AND: return a != 0 && b != 0 ? 1 : 0;
                case Token.LESS: return a < b ? 1 : 0;
                case Token.LESS_OR_SAME: return a <= b ? 1 : 0;
                case Token.SAME: return a == b ? 1 : 0;
                case Token.OTHER: return a != b ? 1 : 0;
                case Token.MORE_OR_SAME: return a >= b ? 1 : 0;
                case Token.MORE: return a > b ? 1 : 0;
                case Token.PLUS: value = a + b; break;
                case Token.MINUS: value = a - b; break;
                case Token.TIMES:
                    // the product itself may be beyond a long
                    long most = a == 0 ? MOST_VALUE : MOST_VALUE / (a < 0 ? -a : a);
                    value = b > most || b < -most ? ERROR : a * b;
                    break;
                default: value = b == 0 ? ERROR : a / b;
            }
            return value > MOST_VALUE || value < -MOST_VALUE ? ERROR : value;
        }
    }

    /** What is so at a STEP, and how a STEP goes. */
    private static final class World {
        private Plan plan;
        final int[] rank = new int[MOST_MEN];
        final int[] rue = new int[MOST_MEN];
        final int[] looks = new int[MOST_MEN];
        final int[] manState = new int[MOST_MEN];
        final int[] goal = new int[MOST_MEN];
        final int[] inside = new int[MOST_MEN];
        final boolean[] held = new boolean[MOST_MEN];
        final int[] thingState = new int[MOST_THINGS];
        final int[] lasts = new int[MOST_THINGS];
        int step;
        int heat;
        int crowd;
        int refused;
        /** The last number, ahead of its division. */
        int number;
        /** Bits of the MEN who went IN in the latest STEP. */
        int wentIn;

        World(Plan told) {
            plan = told;
            begin(told);
        }

        void begin(Plan told) {
            plan = told;
            for (int man = 0; man < MOST_MEN; man++) {
                rank[man] = man;
                rue[man] = told.rue[man];
                looks[man] = 0;
                manState[man] = OUTSIDE;
                goal[man] = NOTHING;
                inside[man] = 0;
                held[man] = false;
            }
            for (int thing = 0; thing < MOST_THINGS; thing++) {
                thingState[thing] = LEFT;
                lasts[thing] = told.lasts[thing];
            }
            step = 0;
            heat = 0;
            crowd = told.settings[CROWD];
            refused = 0;
            number = told.settings[SEED];
            wentIn = 0;
        }

        void become(World other) {
            plan = other.plan;
            System.arraycopy(other.rank, 0, rank, 0, MOST_MEN);
            System.arraycopy(other.rue, 0, rue, 0, MOST_MEN);
            System.arraycopy(other.looks, 0, looks, 0, MOST_MEN);
            System.arraycopy(other.manState, 0, manState, 0, MOST_MEN);
            System.arraycopy(other.goal, 0, goal, 0, MOST_MEN);
            System.arraycopy(other.inside, 0, inside, 0, MOST_MEN);
            for (int man = 0; man < MOST_MEN; man++) {
                held[man] = other.held[man];
            }
            System.arraycopy(other.thingState, 0, thingState, 0, MOST_THINGS);
            System.arraycopy(other.lasts, 0, lasts, 0, MOST_THINGS);
            step = other.step;
            heat = other.heat;
            crowd = other.crowd;
            refused = other.refused;
            number = other.number;
            wentIn = other.wentIn;
        }

        // -- what is so

        int thingsThatAre(int state) {
            int size = 0;
            for (int thing = 0; thing < plan.things && thing < MOST_THINGS; thing++) {
                if (thingState[thing] == state) {
                    size++;
                }
            }
            return size;
        }

        int menThatAre(int state) {
            int size = 0;
            for (int man = 0; man < plan.men && man < MOST_MEN; man++) {
                if (manState[man] == state) {
                    size++;
                }
            }
            return size;
        }

        int savedWorth() {
            int sum = 0;
            for (int thing = 0; thing < plan.things && thing < MOST_THINGS; thing++) {
                if (thingState[thing] == SAVED) {
                    sum += plan.worth[thing];
                }
            }
            return sum;
        }

        int placeOf(int man) {
            return find(rank, plan.men, man);
        }

        void changePlaces(int one, int other) {
            int first = placeOf(one);
            int second = placeOf(other);
            if (first >= 0 && second >= 0) {
                rank[first] = other;
                rank[second] = one;
            }
        }

        /** Only a MAN that is IN has a goal. */
        int goerFor(int thing) {
            int goer = find(goal, plan.men, thing);
            return goer < 0 ? NOTHING : goer;
        }

        /** The first THING that is LEFT and that nobody goes for. */
        int freeThing() {
            for (int thing = 0; thing < plan.things && thing < MOST_THINGS; thing++) {
                if (thingState[thing] == LEFT && goerFor(thing) < 0) {
                    return thing;
                }
            }
            return NOTHING;
        }

        /** Makes the NAMES those of a MAN with so many LOOKS more and of a THING (or none). */
        void setFacts(int man, int thing, int more) {
            if (man < 0 || man >= MOST_MEN) {
                return;
            }
            long[] facts = plan.laws.facts;
            facts[0] = plan.fear[man];
            facts[1] = rue[man];
            facts[2] = plan.skill[man];
            facts[3] = looks[man] + more;
            facts[4] = heat;
            facts[5] = thing >= 0 && thing < MOST_THINGS ? plan.depth[thing] : 0;
            facts[6] = step;
        }

        boolean dares(int man, int thing, int more) {
            if (man < 0 || man >= MOST_MEN) {
                return false;
            }
            setFacts(man, thing, more);
            long value = plan.laws.work(DARE);
            if (value == ERROR) {
                return rue[man] + looks[man] + more >= plan.fear[man] + heat;
            }
            return value != 0;
        }

        // -- how a STEP goes

        void pass(int way) {
            wentIn = 0;
            if ((way & NO_LOOKS) == 0) {
                payLooks();
            }
            for (int place = 0; place < plan.men && place < MOST_MEN; place++) {
                sendMan(rank[place]);
            }
            for (int place = 0; place < plan.men && place < MOST_MEN; place++) {
                moveMan(rank[place], way);
            }
            if ((way & NO_BURNING) == 0) {
                burnThings();
            }
            growHeat(way);
            step++;
        }

        private void payLooks() {
            for (int look = 0; look < plan.looks && look < MOST_LOOKS; look++) {
                if (plan.lookStep[look] == step) {
                    payLook(plan.lookMan[look], plan.lookSize[look]);
                }
            }
        }

        private void payLook(int man, int paid) {
            if (crowd < paid) {
                refused++;
            } else if (man >= 0 && man < MOST_MEN) {
                crowd -= paid;
                looks[man] += paid;
            }
        }

        private void sendMan(int man) {
            if (man < 0 || man >= MOST_MEN || manState[man] != OUTSIDE || held[man]) {
                return;
            }
            int thing = freeThing();
            if (thing >= 0 && dares(man, thing, 0)) {
                manState[man] = IN;
                goal[man] = thing;
                inside[man] = 0;
                wentIn |= 1 << man;
            }
        }

        private void moveMan(int man, int way) {
            if (man < 0 || man >= MOST_MEN || manState[man] != IN) {
                return;
            }
            int thing = goal[man];
            if (thing < 0 || thing >= MOST_THINGS) {
                return;
            }
            inside[man]++;
            if (isHurt(man, thing, way)) {
                leaveThing(man, HURT);
                if (thingState[thing] == TAKEN) {
                    thingState[thing] = BURNT;
                }
            } else if (inside[man] == plan.depth[thing]) {
                if (thingState[thing] == LEFT) {
                    thingState[thing] = TAKEN;
                }
            } else if (inside[man] == 2 * plan.depth[thing]) {
                leaveThing(man, OUTSIDE);
                if (thingState[thing] == TAKEN) {
                    saveThing(man, thing);
                }
            }
        }

        private void leaveThing(int man, int state) {
            manState[man] = state;
            goal[man] = NOTHING;
            inside[man] = 0;
        }

        private boolean isHurt(int man, int thing, int way) {
            if ((way & NO_HURTS) != 0) {
                return false;
            }
            setFacts(man, thing, 0);
            long odds = plan.laws.work(HURTS);
            return comesTrue(odds == ERROR ? plan.settings[RISK] : odds, way);
        }

        /** E of after is of the THING he came out with, though he goes for it no more. */
        private void saveThing(int man, int thing) {
            thingState[thing] = SAVED;
            crowd = Math.min(9999, crowd + plan.worth[thing]);
            setFacts(man, thing, 0);
            long more = plan.laws.work(AFTER);
            if (more != ERROR) {
                int change = (int) Math.max(-9, Math.min(9, more));
                rue[man] = Math.max(0, Math.min(99, rue[man] + change));
            }
        }

        private void burnThings() {
            for (int thing = 0; thing < plan.things && thing < MOST_THINGS; thing++) {
                if (thingState[thing] == LEFT && lasts[thing] == step) {
                    thingState[thing] = BURNT;
                }
            }
        }

        private void growHeat(int way) {
            int more = plan.settings[GROWS];
            if ((way & NO_GUSTS) == 0 && comesTrue(plan.settings[GUST], way)) {
                more += 5;
            }
            heat = Math.min(999, heat + more);
        }

        /** Odds of a hundred; no number is drawn for what is sure. */
        private boolean comesTrue(long odds, int way) {
            if (odds <= 0 || odds >= 100) {
                return odds >= 100;
            }
            if ((way & DRAWN) == 0) {
                return odds >= 50;
            }
            number = (number * 1103515245 + 12345) & 0x7fffffff;
            return (number >> 16) % 100 < odds;
        }
    }

    /** What was done by call since the latest STEP, the latest last. */
    private static final class Deeds {
        int size;
        final int[] which = new int[MOST_DEEDS];
        final int[] whom = new int[MOST_DEEDS];
        final int[] how = new int[MOST_DEEDS];

        void note(int deed, int one, int other) {
            if (size >= MOST_DEEDS) {
                forgetFirst();
            }
            if (size >= 0 && size < MOST_DEEDS) {
                which[size] = deed;
                whom[size] = one;
                how[size] = other;
                size++;
            }
        }

        private void forgetFirst() {
            for (int k = 1; k < MOST_DEEDS; k++) {
                which[k - 1] = which[k];
                whom[k - 1] = whom[k];
                how[k - 1] = how[k];
            }
            size = MOST_DEEDS - 1;
        }
    }

    /** What was SEEN, and by how many of it one knows. */
    private static final class Sight {
        static final int MOST_AFTER = 60;

        int size;
        /** NONE: by all. */
        int knownBy = NONE;
        private final int[] after = new int[MOST_SEEN];
        private final int[] thing = new int[MOST_SEEN];
        private final boolean[] isSaved = new boolean[MOST_SEEN];
        /** What it strikes; NONE: it is no strike. */
        private final int[] struck = new int[MOST_SEEN];
        private final boolean[] isKnown = new boolean[MOST_SEEN];

        void clear() {
            size = 0;
            knownBy = NONE;
        }

        int note(int steps, int ofThing, boolean saved, int strikes) {
            if (size < 0 || size >= MOST_SEEN) {
                return NONE;
            }
            after[size] = steps;
            thing[size] = ofThing;
            isSaved[size] = saved;
            struck[size] = strikes;
            size++;
            return size - 1;
        }

        int knownSize() {
            return knownBy < 0 ? size : knownBy;
        }

        /** Marks the KNOWN ones: behind how many STEPS the last of them is (0 without). */
        int markKnown() {
            int most = Math.min(knownSize(), MOST_SEEN);
            for (int k = 0; k < MOST_SEEN; k++) {
                isKnown[k] = k < most;
            }
            int last = 0;
            for (int k = most - 1; k >= 0; k--) {
                if (isKnown[k] && struck[k] >= 0 && struck[k] < MOST_SEEN) {
                    isKnown[struck[k]] = false;
                } else if (isKnown[k]) {
                    last = Math.max(last, after[k]);
                }
            }
            return Math.min(last, MOST_AFTER);
        }

        /** Whether all KNOWN ones behind so many STEPS are so (a strike is behind 0). */
        boolean fits(int steps, int[] thingState) {
            for (int k = 0; k < size && k < MOST_SEEN; k++) {
                if (isKnown[k] && after[k] == steps && thing[k] >= 0 && thing[k] < thingState.length
                    && (thingState[thing[k]] == SAVED) != isSaved[k]) {
                    return false;
                }
            }
            return true;
        }
    }

    /** MATCH: the most WORTH that the MEN from one on can have, by the THINGS that are taken (as bits). */
    private static final class Matching {
        static final int SETS = 1 << MOST_THINGS;

        private final int[] best = new int[(MOST_MEN + 1) * SETS];
        /** The THING of each MAN. */
        final int[] thingOf = new int[MOST_MEN];

        int solve(World world) {
            int men = Math.min(world.plan.men, MOST_MEN);
            int sets = 1 << Math.min(world.plan.things, MOST_THINGS);
            for (int set = 0; set < sets; set++) {
                best[men * SETS + set] = 0;
            }
            for (int man = men - 1; man >= 0; man--) {
                for (int set = 0; set < sets; set++) {
                    best[man * SETS + set] = mostOf(world, man, set);
                }
            }
            choose(world, men);
            return best[0];
        }

        private int mostOf(World world, int man, int set) {
            int most = best[(man + 1) * SETS + set];
            for (int thing = 0; thing < world.plan.things && thing < MOST_THINGS; thing++) {
                if (mayHave(world, man, thing, set)) {
                    most = Math.max(most, worthWith(world, man, thing, set));
                }
            }
            return most;
        }

        private int worthWith(World world, int man, int thing, int set) {
            return world.plan.worth[thing] + best[(man + 1) * SETS + (set | 1 << thing)];
        }

        private static boolean mayHave(World world, int man, int thing, int set) {
            return (set >> thing & 1) == 0
                && world.manState[man] != HURT
                && world.thingState[thing] == LEFT
                && world.plan.depth[thing] <= world.plan.skill[man];
        }

        /** None is first, so a MAN has a THING only if the most can't be had without. */
        private void choose(World world, int men) {
            int set = 0;
            for (int man = 0; man < MOST_MEN; man++) {
                thingOf[man] = NOTHING;
                if (man < men && best[(man + 1) * SETS + set] != best[man * SETS + set]) {
                    thingOf[man] = firstOf(world, man, set);
                    set |= thingOf[man] >= 0 ? 1 << thingOf[man] : 0;
                }
            }
        }

        private int firstOf(World world, int man, int set) {
            for (int thing = 0; thing < world.plan.things && thing < MOST_THINGS; thing++) {
                if (mayHave(world, man, thing, set)
                    && worthWith(world, man, thing, set) == best[man * SETS + set]) {
                    return thing;
                }
            }
            return NOTHING;
        }
    }
}
