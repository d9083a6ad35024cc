import java.util.NoSuchElementException;

/** A draft by lots: who is taken, whom he sends in his place, and what it costs. */
public final class LowNumber {
    public static final int NONE = -1;

    /** The answer of a call that isn't refused, where there is nobody or nothing to name. */
    private static final int NOBODY = -2;
    /** An agent may lose up to 3, so that his refusal can't be NONE. */
    private static final int NO_GAIN = -100;

    private static final int FINE = 0;
    private static final int NO_SUCH = 1;
    private static final int BAD_NUMBER = 2;
    private static final int NO_ROOM = 3;
    private static final int BAD_TEXT = 4;
    private static final int NOT_SO = 5;
    private static final int NOTHING = 6;

    private static final int PLAIN = 0;
    private static final int MARRIED = 1;
    private static final int SHORT = 2;
    private static final int LAME = 3;
    private static final int SORTS = 4;
    private static final int LAWS = 16;

    private static final int MOST_BYTES = 800;
    private static final int MOST_MEN = 6;
    private static final int MOST_KIN = 6;
    private static final int MOST_WENT = 3;
    private static final int MOST_TAKEN = 5;
    private static final int MOST_ROWS = 720;
    private static final int MOST_ACTS = 16;
    private static final int MOST_IMAGES = 3;
    private static final int MOST_RUIN = 999;
    private static final int MOST_BUYERS = 99;
    private static final int MOST_DRAFTS = 90;
    private static final int MOST_SEED = 65536;
    private static final int PRICES = 10;
    private static final int AGENTS_MEN = 3;

    private static final int[] FACTORIALS = {1, 1, 2, 6, 24, 120, 720};

    private final Tape tape = new Tape();
    private int trouble;

    private boolean drafted;
    private Draft draft = new Draft();
    private Draft unread = new Draft();
    private final Now now = new Now();
    private final Now trialNow = new Now();
    private final Kept kept = new Kept();

    private final Levy levy = new Levy();
    private final int[] lots = new int[MOST_MEN];
    private final Cases cases = new Cases();
    private final Cases trial = new Cases();
    private boolean stale;
    private final Laws laws = new Laws();
    private final Witness witness = new Witness();

    public LowNumber() {
    }

    // ---- the draft

    public int feed(int a, int b, int c, int d, int e) {
        if (!tape.hasRoom(20)) {
            return NONE;
        }
        tape.put(a);
        tape.put(b);
        tape.put(c);
        tape.put(d);
        tape.put(e);
        return tape.length;
    }

    public int draft(int n) {
        if (n < 0 || n > tape.length) {
            return refuse(BAD_NUMBER);
        }
        if (!tape.read(n, unread)) {
            return refuse(BAD_TEXT);
        }
        // a text with a fault must leave the draft alone, so it is read into the other one
        Draft old = draft;
        draft = unread;
        unread = old;
        drafted = true;
        now.begin(draft);
        kept.clear();
        changed();
        return answer(draft.men);
    }

    public int fault() {
        return tape.fault;
    }

    public int where() {
        return trouble == BAD_TEXT ? tape.place : NONE;
    }

    // ---- now

    public int man(int m, int what) {
        if (!isMan(m)) {
            return refuse(NO_SUCH);
        }
        switch (what) {
            case 0:
                return answer(now.sorts[m]);
            case 1:
                return answer(draft.worth[m]);
            case 2:
                return answer(now.coins[m]);
            case 3:
                return answer(draft.asks[m]);
            case 4:
                return answer(draft.kin[m]);
            case 5:
                return answer(now.spared >> now.sorts[m] & 1);
            default:
                return refuse(NO_SUCH);
        }
    }

    public int spared() {
        return drafted ? answer(now.spared) : refuse(NO_SUCH);
    }

    public int many(int sort) {
        if (!drafted) {
            return refuse(NO_SUCH);
        }
        if (!isSort(sort)) {
            return refuse(BAD_NUMBER);
        }
        int count = 0;
        for (int m = 0; m < draft.men; m++) {
            if (now.sorts[m] == sort) {
                count++;
            }
        }
        return answer(count);
    }

    public int wouldGo(int m) {
        if (!isMan(m)) {
            return refuse(NO_SUCH);
        }
        return answer(levy.cheapest(draft, now, m, 1 << m));
    }

    // ---- rows

    public int takenBy(int row) {
        int why = levyBy(row);
        return why == FINE ? answer(levy.takenBits) : refuse(why);
    }

    public int goesBy(int row) {
        int why = levyBy(row);
        return why == FINE ? answer(goers(levy.takenBits, levy.sends)) : refuse(why);
    }

    public int sendsBy(int row, int m) {
        int why = isMan(m) ? levyBy(row) : NO_SUCH;
        return why == FINE ? answer(levy.sends[m]) : refuse(why);
    }

    public int lossBy(int row, int m) {
        int why = isMan(m) ? levyBy(row) : NO_SUCH;
        return why == FINE ? answer(levy.lost(draft, m)) : refuse(why);
    }

    public int firstTaken(int m) {
        if (!isMan(m)) {
            return refuse(NO_SUCH);
        }
        byNumbers(lots, draft.men);
        for (int count = 0; count < MOST_ROWS; count++) {
            levy.run(draft, now, now.spared, lots);
            if ((levy.takenBits >> m & 1) == 1) {
                return answer(numberOf(lots, draft.men));
            }
            if (!nextRow(lots, draft.men, levy.called)) {
                return answer(NOBODY);
            }
        }
        return answer(NOBODY);
    }

    /** Runs the levy by a row's number; answers why it can't, or FINE. */
    private int levyBy(int row) {
        if (!drafted) {
            return NO_SUCH;
        }
        if (!readRow(row)) {
            return BAD_NUMBER;
        }
        levy.run(draft, now, now.spared, lots);
        return FINE;
    }

    private boolean readRow(int number) {
        if (number < 0) {
            return false;
        }
        int rest = number;
        int seen = 0;
        for (int i = draft.men - 1; i >= 0; i--) {
            int m = rest % 10;
            rest /= 10;
            if (m >= draft.men || (seen >> m & 1) == 1) {
                return false;
            }
            seen |= 1 << m;
            lots[i] = m;
        }
        return rest == 0;
    }

    // ---- odds

    public long taken(int m, boolean lower) {
        if (!isMan(m)) {
            return refuse(NO_SUCH);
        }
        return odds(table().weightTaken(m), lower);
    }

    public long goes(int m, boolean lower) {
        if (!isMan(m)) {
            return refuse(NO_SUCH);
        }
        return odds(table().weightGoing(m), lower);
    }

    public long goesFor(int m, int other, boolean lower) {
        if (!isMan(m) || !isMan(other) || m == other) {
            return refuse(NO_SUCH);
        }
        return odds(table().weightSent(m, other), lower);
    }

    public long loss(int m, boolean lower) {
        if (!isMan(m)) {
            return refuse(NO_SUCH);
        }
        return odds(table().lossOf(draft, 1 << m), lower);
    }

    public long club(int men, boolean lower) {
        if (!isClub(men) || men == 0) {
            return refuse(NO_SUCH);
        }
        long all = (long) FACTORIALS[draft.men] * Integer.bitCount(men);
        return part(table().lossOf(draft, men), all, lower);
    }

    public long ruin(int men, int much, boolean lower) {
        if (!isClub(men) || men == 0) {
            return refuse(NO_SUCH);
        }
        if (much < 0 || much > MOST_RUIN) {
            return refuse(BAD_NUMBER);
        }
        return odds(table().weightLosing(draft, men, much), lower);
    }

    public int toJoin(int men) {
        if (!isClub(men)) {
            return refuse(NO_SUCH);
        }
        int best = NOBODY;
        long least = 0;
        for (int m = 0; m < draft.men; m++) {
            if ((men >> m & 1) == 0) {
                // all clubs with one man more share by as many, so the newcomer's own loss decides
                long loss = table().lossOf(draft, 1 << m);
                if (best == NOBODY || loss < least) {
                    best = m;
                    least = loss;
                }
            }
        }
        return answer(best);
    }

    public long shortOf(boolean lower) {
        if (!drafted) {
            return refuse(NO_SUCH);
        }
        return odds(table().weightUnfilled(draft), lower);
    }

    public long ifMarried(int m, boolean lower) {
        if (!isMan(m)) {
            return refuse(NO_SUCH);
        }
        trialNow.take(now);
        trialNow.sorts[m] = MARRIED;
        trial.fill(draft, trialNow, now.spared);
        return odds(trial.lossOf(draft, 1 << m), lower);
    }

    // ---- laws

    public long harm(int law, boolean lower) {
        if (!drafted) {
            return refuse(NO_SUCH);
        }
        if (!isLaw(law)) {
            return refuse(BAD_NUMBER);
        }
        learn(law);
        return odds(laws.harms[law], lower);
    }

    public int fills(int law) {
        if (!drafted) {
            return refuse(NO_SUCH);
        }
        if (!isLaw(law)) {
            return refuse(BAD_NUMBER);
        }
        learn(law);
        return answer(laws.filled >> law & 1);
    }

    public int bestLaw() {
        if (!drafted) {
            return refuse(NO_SUCH);
        }
        int best = NOBODY;
        long least = 0;
        for (int law = 0; law < LAWS; law++) {
            learn(law);
            if ((laws.filled >> law & 1) == 1 && (best == NOBODY || laws.harms[law] < least)) {
                best = law;
                least = laws.harms[law];
            }
        }
        return answer(best);
    }

    public int toSpare() {
        if (!drafted) {
            return refuse(NO_SUCH);
        }
        int best = NOBODY;
        long least = 0;
        for (int sort = 0; sort < SORTS; sort++) {
            if ((now.spared >> sort & 1) == 0) {
                int law = now.spared | 1 << sort;
                learn(law);
                if (best == NOBODY || laws.harms[law] < least) {
                    best = sort;
                    least = laws.harms[law];
                }
            }
        }
        return answer(best);
    }

    /** Works out a law once only as long as nothing changes: all sixteen of them are dear. */
    private void learn(int law) {
        if ((laws.known >> law & 1) == 0) {
            trial.fill(draft, now, law);
            laws.put(law, trial.lossOf(draft, allMen()), trial.weightUnfilled(draft) == 0);
        }
    }

    // ---- who went

    public int rows() {
        if (!drafted) {
            return refuse(NO_SUCH);
        }
        return answer(look().fitting);
    }

    public int could(int k) {
        return isTold(k) ? answer(look().couldBe(k, draft.men)) : refuse(NO_SUCH);
    }

    public int surely(int k) {
        return isTold(k) ? answer(look().mustBe(k, draft.men)) : refuse(NO_SUCH);
    }

    public int ask() {
        if (!drafted) {
            return refuse(NO_SUCH);
        }
        return answer(look().best(draft));
    }

    public int askLeaves() {
        if (!drafted) {
            return refuse(NO_SUCH);
        }
        int k = look().best(draft);
        return answer(k == NOBODY ? NOBODY : witness.mostLeft(k, draft.men));
    }

    public int surelyTaken() {
        if (!drafted) {
            return refuse(NO_SUCH);
        }
        return answer(look().takenInAll);
    }

    private Witness look() {
        witness.look(draft, table());
        return witness;
    }

    // ---- a doctor

    public long believed(boolean says, boolean lower) {
        if (!drafted) {
            return refuse(NO_SUCH);
        }
        if (!draft.hasDoctor) {
            return refuse(NOTHING);
        }
        long ofLame = draft.share * (says ? draft.hits : 100 - draft.hits);
        long ofOthers = (100 - draft.share) * (says ? draft.errs : 100 - draft.errs);
        return part(ofLame, ofLame + ofOthers, lower);
    }

    public long wrong(boolean lower) {
        if (!drafted) {
            return refuse(NO_SUCH);
        }
        if (!draft.hasDoctor) {
            return refuse(NOTHING);
        }
        long ofLame = draft.share * (100 - draft.hits);
        long ofOthers = (100 - draft.share) * draft.errs;
        return part(ofLame + ofOthers, 10000, lower);
    }

    // ---- two agents

    public int agent(int many, int one, int other, boolean ofOther) {
        if (!drafted) {
            refuse(NO_SUCH);
            return NO_GAIN;
        }
        if (!isBuyers(many) || one < 0 || one >= PRICES || other < 0 || other >= PRICES) {
            refuse(BAD_NUMBER);
            return NO_GAIN;
        }
        return answer(ofOther ? gain(many, other, one) : gain(many, one, other));
    }

    public int rests(int many) {
        if (!drafted) {
            return refuse(NO_SUCH);
        }
        if (!isBuyers(many)) {
            return refuse(BAD_NUMBER);
        }
        int count = 0;
        for (int pair = 0; pair < PRICES * PRICES; pair++) {
            if (isRest(many, pair / PRICES, pair % PRICES)) {
                count++;
            }
        }
        return answer(count);
    }

    public int rest(int many) {
        if (!drafted) {
            return refuse(NO_SUCH);
        }
        if (!isBuyers(many)) {
            return refuse(BAD_NUMBER);
        }
        for (int pair = 0; pair < PRICES * PRICES; pair++) {
            if (isRest(many, pair / PRICES, pair % PRICES)) {
                return answer(pair);
            }
        }
        return answer(NOBODY);
    }

    private static boolean isRest(int many, int one, int other) {
        return isBestReply(many, one, other) && isBestReply(many, other, one);
    }

    private static boolean isBestReply(int many, int own, int rival) {
        int has = gain(many, own, rival);
        for (int price = 0; price < PRICES; price++) {
            if (gain(many, price, rival) > has) {
                return false;
            }
        }
        return true;
    }

    private static int gain(int many, int own, int rival) {
        int left = many;
        if (own == rival) {
            left = many / 2;
        } else if (own > rival) {
            left = many - Math.min(many, AGENTS_MEN);
        }
        return (own - 1) * Math.min(left, AGENTS_MEN);
    }

    // ---- drafts by draws

    public int drafts(int m, int seed, int n) {
        return countDraws(m, seed, n, false);
    }

    public int sentIn(int m, int seed, int n) {
        return countDraws(m, seed, n, true);
    }

    private int countDraws(int m, int seed, int n, boolean sent) {
        if (!isMan(m)) {
            return refuse(NO_SUCH);
        }
        if (!isSeed(seed) || !isDrafts(n)) {
            return refuse(BAD_NUMBER);
        }
        int count = 0;
        int going = seed;
        for (int i = 0; i < n; i++) {
            going = levyByDraws(going);
            count += (sent ? levy.sentBits : levy.takenBits) >> m & 1;
        }
        return answer(count);
    }

    public int lossIn(int seed, int n) {
        if (!drafted) {
            return refuse(NO_SUCH);
        }
        if (!isSeed(seed) || !isDrafts(n)) {
            return refuse(BAD_NUMBER);
        }
        int sum = 0;
        int going = seed;
        for (int i = 0; i < n; i++) {
            going = levyByDraws(going);
            for (int m = 0; m < draft.men; m++) {
                sum += levy.lost(draft, m);
            }
        }
        return answer(sum);
    }

    /** Runs the levy by a row that is drawn; answers the seed behind its draws. */
    private int levyByDraws(int seed) {
        byNumbers(lots, draft.men);
        int going = seed;
        for (int i = draft.men; i >= 2; i--) {
            going = (75 * going + 74) % (MOST_SEED + 1);
            swap(lots, going % i, i - 1);
        }
        levy.run(draft, now, now.spared, lots);
        return going;
    }

    // ---- acts

    public boolean marry(int m) {
        if (!isMan(m)) {
            return deny(NO_SUCH);
        }
        if (now.sorts[m] == MARRIED) {
            return deny(NOT_SO);
        }
        kept.keep(now);
        now.sorts[m] = MARRIED;
        changed();
        return grant();
    }

    public boolean spare(int sort, boolean is) {
        if (!drafted) {
            return deny(NO_SUCH);
        }
        if (!isSort(sort)) {
            return deny(BAD_NUMBER);
        }
        if ((now.spared >> sort & 1) == (is ? 1 : 0)) {
            return deny(NOT_SO);
        }
        kept.keep(now);
        now.spared ^= 1 << sort;
        changed();
        return grant();
    }

    public int hold() {
        if (!drafted) {
            return refuse(NO_SUCH);
        }
        kept.keep(now);
        now.seed = levyByDraws(now.seed);
        now.held++;
        now.takenBits = levy.takenBits;
        for (int m = 0; m < draft.men; m++) {
            now.row[m] = lots[m];
            now.sends[m] = levy.sends[m];
            if (levy.sends[m] >= 0) {
                now.coins[m] -= draft.asks[levy.sends[m]];
            }
        }
        changed();
        return answer(goers(now.takenBits, now.sends));
    }

    public int desert(int m) {
        if (!isMan(m)) {
            return refuse(NO_SUCH);
        }
        int sender = senderOf(m);
        if (sender < 0) {
            return refuse(NOT_SO);
        }
        kept.keep(now);
        now.sends[sender] = NOBODY;
        return answer(sender);
    }

    public int fate(int m) {
        if (!isMan(m)) {
            return refuse(NO_SUCH);
        }
        if ((now.takenBits >> m & 1) == 1) {
            return answer(now.sends[m] < 0 ? 1 : 2);
        }
        return answer(senderOf(m) < 0 ? 0 : 3);
    }

    /** For whom a man goes by the draft held latest, or NOBODY. */
    private int senderOf(int m) {
        for (int other = 0; other < draft.men; other++) {
            if (now.sends[other] == m) {
                return other;
            }
        }
        return NOBODY;
    }

    public int lot(int i) {
        if (!isMan(i) || now.held == 0) {
            return refuse(NO_SUCH);
        }
        return answer(now.row[i]);
    }

    public boolean seed(int v) {
        if (!drafted) {
            return deny(NO_SUCH);
        }
        if (!isSeed(v)) {
            return deny(BAD_NUMBER);
        }
        now.seed = v;
        return grant();
    }

    public boolean undo() {
        if (!kept.takeBack(now)) {
            return deny(NOTHING);
        }
        changed();
        return grant();
    }

    public int image() {
        if (!drafted) {
            return refuse(NO_SUCH);
        }
        int number = kept.paint(now);
        return number < 0 ? refuse(NO_ROOM) : answer(number);
    }

    public boolean back(int image) {
        if (!kept.goBack(image, now)) {
            return deny(NO_SUCH);
        }
        changed();
        return grant();
    }

    // ---- what is told

    public int led(int i) throws NoSuchElementException {
        int going = drafted ? goers(now.takenBits, now.sends) : 0;
        int before = 0;
        for (int m = 0; m < MOST_MEN; m++) {
            if ((going >> m & 1) == 1) {
                if (before == i) {
                    return m;
                }
                before++;
            }
        }
        throw new NoSuchElementException("no such man goes");
    }

    public int size(int what) {
        if (what == 9) {
            return tape.length;
        }
        if (what < 0 || what > 9) {
            return NONE;
        }
        return drafted ? sizeOfDraft(what) : 0;
    }

    private int sizeOfDraft(int what) {
        switch (what) {
            case 0:
                return draft.takes;
            case 1:
                return draft.men;
            case 2:
                return draft.kins;
            case 3:
                return draft.hasDoctor ? 1 : 0;
            case 4:
                return draft.wents;
            case 5:
                return now.held;
            case 6:
                return now.seed;
            case 7:
                return kept.acts;
            default:
                return kept.images;
        }
    }

    public int trouble() {
        return trouble;
    }

    // ---- what the calls share

    private int refuse(int why) {
        trouble = why;
        return NONE;
    }

    private int answer(int value) {
        trouble = FINE;
        return value;
    }

    private boolean deny(int why) {
        trouble = why;
        return false;
    }

    private boolean grant() {
        trouble = FINE;
        return true;
    }

    private boolean isMan(int m) {
        return drafted && m >= 0 && m < draft.men;
    }

    private boolean isClub(int men) {
        return drafted && men >= 0 && men <= allMen();
    }

    private boolean isTold(int k) {
        return drafted && k >= 0 && k < draft.wents;
    }

    private int allMen() {
        return (1 << draft.men) - 1;
    }

    private static boolean isSort(int sort) {
        return sort >= 0 && sort < SORTS;
    }

    private static boolean isLaw(int law) {
        return law >= 0 && law < LAWS;
    }

    private static boolean isBuyers(int many) {
        return many >= 0 && many <= MOST_BUYERS;
    }

    private static boolean isSeed(int seed) {
        return seed >= 0 && seed <= MOST_SEED;
    }

    private static boolean isDrafts(int n) {
        return n >= 1 && n <= MOST_DRAFTS;
    }

    private void changed() {
        stale = true;
        laws.forget();
    }

    private Cases table() {
        if (stale) {
            cases.fill(draft, now, now.spared);
            stale = false;
        }
        return cases;
    }

    private long odds(long sum, boolean lower) {
        return part(sum, FACTORIALS[draft.men], lower);
    }

    private long part(long upper, long under, boolean lower) {
        trouble = FINE;
        if (upper == 0 || under == 0) {
            return lower ? 1 : 0;
        }
        long common = commonDivisor(upper, under);
        if (common == 0) {
            return lower ? 1 : 0;
        }
        return lower ? under / common : upper / common;
    }

    private static long commonDivisor(long a, long b) {
        long greater = a;
        long less = b;
        for (int i = 0; i < 200 && less != 0; i++) {
            long left = greater % less;
            greater = less;
            less = left;
        }
        return greater;
    }

    /** Who goes, as bits: those who are sent, and those taken who send none. */
    private static int goers(int takenBits, int[] sends) {
        int going = 0;
        for (int m = 0; m < MOST_MEN; m++) {
            if ((takenBits >> m & 1) == 1) {
                going |= 1 << (sends[m] < 0 ? m : sends[m]);
            }
        }
        return going;
    }

    private static void byNumbers(int[] row, int men) {
        for (int i = 0; i < men; i++) {
            row[i] = i;
        }
    }

    private static int numberOf(int[] row, int men) {
        int number = 0;
        for (int i = 0; i < men; i++) {
            number = 10 * number + row[i];
        }
        return number;
    }

    private static void swap(int[] row, int i, int j) {
        int moved = row[i];
        row[i] = row[j];
        row[j] = moved;
    }

    private static void turn(int[] row, int from, int to) {
        int i = from;
        for (int j = to; i < j; j--) {
            swap(row, i, j);
            i++;
        }
    }

    /**
     * Goes on to the first row that begins otherwise in its first so many places, the row being the
     * first of those that begin like it; false if it was the last.
     */
    private static boolean nextRow(int[] row, int men, int alike) {
        turn(row, alike, men - 1);
        int i = men - 2;
        while (i >= 0 && row[i] > row[i + 1]) {
            i--;
        }
        if (i < 0) {
            return false;
        }
        int j = men - 1;
        while (j > i && row[j] < row[i]) {
            j--;
        }
        swap(row, i, j);
        turn(row, i + 1, men - 1);
        return true;
    }

    /** What the text tells; it never changes while the draft stands. */
    private static final class Draft {
        int takes;
        int men;
        final int[] sorts = new int[MOST_MEN];
        final int[] worth = new int[MOST_MEN];
        final int[] coins = new int[MOST_MEN];
        final int[] asks = new int[MOST_MEN];
        final int[] kin = new int[MOST_MEN];
        int kins;
        int spared;
        boolean hasDoctor;
        int hits;
        int errs;
        int share;
        final int[] went = new int[MOST_WENT];
        int wents;

        void clear() {
            takes = 0;
            men = 0;
            kins = 0;
            spared = 0;
            hasDoctor = false;
            wents = 0;
            for (int m = 0; m < MOST_MEN; m++) {
                kin[m] = 0;
            }
        }
    }

    /** What acts change, all of it: so a copy is enough to undo. */
    private static final class Now {
        final int[] sorts = new int[MOST_MEN];
        final int[] coins = new int[MOST_MEN];
        final int[] row = new int[MOST_MEN];
        final int[] sends = new int[MOST_MEN];
        int spared;
        int seed;
        int held;
        int takenBits;

        void begin(Draft draft) {
            spared = draft.spared;
            seed = 0;
            held = 0;
            takenBits = 0;
            for (int m = 0; m < MOST_MEN; m++) {
                sorts[m] = draft.sorts[m];
                coins[m] = draft.coins[m];
                row[m] = m;
                sends[m] = NOBODY;
            }
        }

        void take(Now other) {
            spared = other.spared;
            seed = other.seed;
            held = other.held;
            takenBits = other.takenBits;
            for (int m = 0; m < MOST_MEN; m++) {
                sorts[m] = other.sorts[m];
                coins[m] = other.coins[m];
                row[m] = other.row[m];
                sends[m] = other.sends[m];
            }
        }
    }

    /** States for undo (a ring: the oldest makes room) and images. */
    private static final class Kept {
        private final Now[] ring = new Now[MOST_ACTS];
        private final Now[] painted = new Now[MOST_IMAGES];
        private int next;
        int acts;
        int images;

        Kept() {
            for (int i = 0; i < MOST_ACTS; i++) {
                ring[i] = new Now();
            }
            for (int i = 0; i < MOST_IMAGES; i++) {
                painted[i] = new Now();
            }
        }

        void clear() {
            acts = 0;
            images = 0;
        }

        void keep(Now now) {
            ring[next].take(now);
            next = (next + 1) % MOST_ACTS;
            acts = Math.min(acts + 1, MOST_ACTS);
        }

        boolean takeBack(Now now) {
            if (acts == 0) {
                return false;
            }
            next = (next + MOST_ACTS - 1) % MOST_ACTS;
            acts--;
            now.take(ring[next]);
            return true;
        }

        int paint(Now now) {
            if (images >= MOST_IMAGES) {
                return NONE;
            }
            painted[images].take(now);
            images++;
            return images - 1;
        }

        boolean goBack(int image, Now now) {
            if (image < 0 || image >= images) {
                return false;
            }
            now.take(painted[image]);
            acts = 0;
            return true;
        }
    }

    /** One draft by one row: who is taken, and whom each sends. */
    private static final class Levy {
        int takenBits;
        int sentBits;
        /** How many lots were looked at; those behind them don't matter. */
        int called;
        final int[] sends = new int[MOST_MEN];

        void run(Draft draft, Now now, int law, int[] row) {
            callMen(draft, now, law, row);
            sentBits = 0;
            for (int m = 0; m < MOST_MEN; m++) {
                sends[m] = NOBODY;
            }
            for (int i = 0; i < called; i++) {
                int m = row[i];
                if ((takenBits >> m & 1) == 1) {
                    int other = cheapest(draft, now, m, takenBits | sentBits);
                    sends[m] = other;
                    if (other >= 0) {
                        sentBits |= 1 << other;
                    }
                }
            }
        }

        private void callMen(Draft draft, Now now, int law, int[] row) {
            takenBits = 0;
            called = 0;
            int count = 0;
            while (called < draft.men && count < draft.takes) {
                int m = row[called];
                if ((law >> now.sorts[m] & 1) == 0 && (draft.kin[m] & takenBits) == 0) {
                    takenBits |= 1 << m;
                    count++;
                }
                called++;
            }
        }

        /** Who goes most cheaply for a man, none of those barred (bits); or NOBODY. */
        int cheapest(Draft draft, Now now, int m, int barred) {
            int best = NOBODY;
            int least = Math.min(now.coins[m], draft.worth[m] - 1);
            for (int other = 0; other < draft.men; other++) {
                if ((barred >> other & 1) == 0 && now.sorts[other] != LAME && draft.asks[other] <= least) {
                    best = other;
                    // a later one must be cheaper
                    least = draft.asks[other] - 1;
                }
            }
            return best;
        }

        int lost(Draft draft, int m) {
            if ((takenBits >> m & 1) == 0) {
                return 0;
            }
            return sends[m] < 0 ? draft.worth[m] : draft.asks[sends[m]];
        }
    }

    /**
     * All rows, those that begin alike as far as it matters as one case, weighed by how many they are.
     * Whom each man sends is kept in three bits each, 0 for nobody, to save room.
     */
    private static final class Cases {
        private final Levy levy = new Levy();
        private final int[] row = new int[MOST_MEN];
        private int count;
        private int men;
        private final int[] takens = new int[MOST_ROWS];
        private final int[] sendings = new int[MOST_ROWS];
        private final int[] weights = new int[MOST_ROWS];

        void fill(Draft draft, Now now, int law) {
            men = draft.men;
            count = 0;
            byNumbers(row, men);
            boolean more = true;
            while (more && count < MOST_ROWS) {
                levy.run(draft, now, law, row);
                takens[count] = levy.takenBits;
                sendings[count] = packed(levy.sends);
                weights[count] = FACTORIALS[men - levy.called];
                count++;
                more = nextRow(row, men, levy.called);
            }
        }

        private static int packed(int[] sends) {
            int code = 0;
            for (int m = 0; m < MOST_MEN; m++) {
                if (sends[m] >= 0) {
                    code |= sends[m] + 1 << 3 * m;
                }
            }
            return code;
        }

        /** Whom a man sends in a case; below 0 nobody. */
        private int sent(int c, int m) {
            return (sendings[c] >> 3 * m & 7) - 1;
        }

        private boolean isTaken(int c, int m) {
            return (takens[c] >> m & 1) == 1;
        }

        /** For whom a man goes in a case; below 0 for nobody. */
        private int sender(int c, int m) {
            for (int other = 0; other < men; other++) {
                if (sent(c, other) == m) {
                    return other;
                }
            }
            return NOBODY;
        }

        private int lost(Draft draft, int c, int club) {
            int sum = 0;
            for (int m = 0; m < men; m++) {
                if ((club & takens[c] & 1 << m) != 0) {
                    int other = sent(c, m);
                    sum += other < 0 ? draft.worth[m] : draft.asks[other];
                }
            }
            return sum;
        }

        long weightTaken(int m) {
            long sum = 0;
            for (int c = 0; c < count; c++) {
                if (isTaken(c, m)) {
                    sum += weights[c];
                }
            }
            return sum;
        }

        long weightGoing(int m) {
            long sum = 0;
            for (int c = 0; c < count; c++) {
                if (isTaken(c, m) ? sent(c, m) < 0 : sender(c, m) >= 0) {
                    sum += weights[c];
                }
            }
            return sum;
        }

        long weightSent(int m, int other) {
            long sum = 0;
            for (int c = 0; c < count; c++) {
                if (sent(c, other) == m) {
                    sum += weights[c];
                }
            }
            return sum;
        }

        long weightLosing(Draft draft, int club, int much) {
            long sum = 0;
            for (int c = 0; c < count; c++) {
                if (lost(draft, c, club) > much) {
                    sum += weights[c];
                }
            }
            return sum;
        }

        long weightUnfilled(Draft draft) {
            long sum = 0;
            for (int c = 0; c < count; c++) {
                if (Integer.bitCount(takens[c]) < draft.takes) {
                    sum += weights[c];
                }
            }
            return sum;
        }

        long lossOf(Draft draft, int club) {
            long sum = 0;
            for (int c = 0; c < count; c++) {
                sum += (long) weights[c] * lost(draft, c, club);
            }
            return sum;
        }
    }

    /** What was worked out of each law since anything changed. */
    private static final class Laws {
        int known;
        int filled;
        final long[] harms = new long[LAWS];

        void forget() {
            known = 0;
            filled = 0;
        }

        void put(int law, long harm, boolean isFilled) {
            known |= 1 << law;
            harms[law] = harm;
            if (isFilled) {
                filled |= 1 << law;
            }
        }
    }

    /** For whom those told went, over all rows that fit. */
    private static final class Witness {
        int fitting;
        int takenInAll;
        private final int[][] counts = new int[MOST_WENT][MOST_MEN];

        void look(Draft draft, Cases cases) {
            clear();
            int inAll = (1 << draft.men) - 1;
            for (int c = 0; c < cases.count; c++) {
                if (fits(draft, cases, c)) {
                    fitting += cases.weights[c];
                    inAll &= cases.takens[c];
                    for (int k = 0; k < draft.wents; k++) {
                        int sender = cases.sender(c, draft.went[k]);
                        if (sender >= 0) {
                            counts[k][sender] += cases.weights[c];
                        }
                    }
                }
            }
            takenInAll = fitting > 0 ? inAll : 0;
        }

        private void clear() {
            fitting = 0;
            for (int k = 0; k < MOST_WENT; k++) {
                for (int m = 0; m < MOST_MEN; m++) {
                    counts[k][m] = 0;
                }
            }
        }

        private static boolean fits(Draft draft, Cases cases, int c) {
            for (int k = 0; k < draft.wents; k++) {
                if (cases.sender(c, draft.went[k]) < 0) {
                    return false;
                }
            }
            return true;
        }

        int couldBe(int k, int men) {
            int bits = 0;
            for (int m = 0; m < men; m++) {
                if (counts[k][m] > 0) {
                    bits |= 1 << m;
                }
            }
            return bits;
        }

        int mustBe(int k, int men) {
            for (int m = 0; m < men; m++) {
                if (counts[k][m] > 0 && counts[k][m] == fitting) {
                    return m;
                }
            }
            return NOBODY;
        }

        int mostLeft(int k, int men) {
            int most = 0;
            for (int m = 0; m < men; m++) {
                most = Math.max(most, counts[k][m]);
            }
            return most;
        }

        int best(Draft draft) {
            int best = NOBODY;
            int fewest = 0;
            for (int k = 0; k < draft.wents && fitting > 0; k++) {
                int left = mostLeft(k, draft.men);
                if (best == NOBODY || left < fewest) {
                    best = k;
                    fewest = left;
                }
            }
            return best;
        }
    }

    /** Takes bytes, and reads a draft's text from the left till its first fault. */
    private static final class Tape {
        private static final int FORM = 1;
        private static final int UNTOLD = 2;
        private static final int AGAIN = 3;
        private static final int BOUNDS = 4;
        private static final int MANY = 5;
        private static final int LACKS = 6;

        private static final int END = 0;
        private static final int WORD = 1;
        private static final int WHOLE = 2;
        private static final int SEMICOLON = 3;
        private static final int BROKEN = 4;

        private static final int NO_LINE = 0;
        private static final int DRAFT_LINE = 1;
        private static final int MAN_LINE = 2;
        private static final int KIN_LINE = 3;
        private static final int SPARES_LINE = 4;
        private static final int DOCTOR_LINE = 5;
        private static final int WENT_LINE = 6;
        private static final int NAME = 7;

        private static final int LONGEST_WORD = 8;
        private static final int LONGEST_WHOLE = 3;

        private final byte[] bytes = new byte[MOST_BYTES];
        int length;
        int fault;
        int place;

        private int end;
        private int at;
        private int behind;
        private int kind;
        private boolean told;
        private int value;
        private final int[] nameAt = new int[MOST_MEN];
        private final int[] nameLength = new int[MOST_MEN];

        boolean hasRoom(int more) {
            return length + more <= MOST_BYTES;
        }

        void put(int four) {
            for (int shift = 24; shift >= 0 && length < MOST_BYTES; shift -= 8) {
                bytes[length] = (byte) (four >> shift);
                length++;
            }
        }

        /** Reads so many bytes (no more than there are); the tape is empty then. */
        boolean read(int n, Draft draft) {
            end = Math.min(n, length);
            length = 0;
            behind = 0;
            fault = 0;
            told = false;
            draft.clear();
            step();
            // each line has a byte of its own at least
            for (int line = 0; line <= MOST_BYTES; line++) {
                if (!readLine(draft)) {
                    return false;
                }
                if (kind == END) {
                    return draft.men > 0 || fail(LACKS);
                }
                if (kind != SEMICOLON) {
                    return fail(FORM);
                }
                step();
            }
            return fail(FORM);
        }

        private boolean fail(int number) {
            fault = number;
            place = at;
            return false;
        }

        private void step() {
            int i = behind;
            while (i < end && bytes[i] == ' ') {
                i++;
            }
            at = i;
            kind = END;
            if (i < end) {
                if (bytes[i] == ';') {
                    kind = SEMICOLON;
                    i++;
                } else if (isBetween(bytes[i], 'a', 'z')) {
                    i = runEnd('a', 'z');
                    kind = i - at <= LONGEST_WORD ? WORD : BROKEN;
                } else if (isBetween(bytes[i], '0', '9')) {
                    i = runEnd('0', '9');
                    kind = i - at <= LONGEST_WHOLE ? WHOLE : BROKEN;
                } else {
                    kind = BROKEN;
                    i++;
                }
            }
            behind = i;
        }

        private static boolean isBetween(int sign, int from, int to) {
            return sign >= from && sign <= to;
        }

        private int runEnd(int from, int to) {
            int i = at;
            while (i < end && isBetween(bytes[i], from, to)) {
                i++;
            }
            return i;
        }

        private boolean readLine(Draft draft) {
            int line = lineKind();
            if (line == NO_LINE || line == NAME) {
                return fail(FORM);
            }
            if (line != DRAFT_LINE && !told) {
                return fail(LACKS);
            }
            switch (line) {
                case DRAFT_LINE:
                    return readTakes(draft);
                case MAN_LINE:
                    return readMan(draft);
                case KIN_LINE:
                    return readKin(draft);
                case SPARES_LINE:
                    return readSpares(draft);
                case DOCTOR_LINE:
                    return readDoctor(draft);
                default:
                    return readWent(draft);
            }
        }

        /** The line that the word here begins, or NAME: a word that begins a line can't be a name. */
        private int lineKind() {
            if (kind != WORD) {
                return NO_LINE;
            }
            if (isWord("draft")) {
                return DRAFT_LINE;
            }
            if (isWord("man")) {
                return MAN_LINE;
            }
            if (isWord("kin")) {
                return KIN_LINE;
            }
            if (isWord("spares")) {
                return SPARES_LINE;
            }
            if (isWord("doctor")) {
                return DOCTOR_LINE;
            }
            return isWord("went") ? WENT_LINE : NAME;
        }

        private boolean readTakes(Draft draft) {
            if (told) {
                return fail(AGAIN);
            }
            told = true;
            step();
            if (!passWord("takes") || !passWhole(MOST_TAKEN)) {
                return false;
            }
            draft.takes = value;
            return true;
        }

        private boolean readMan(Draft draft) {
            int m = draft.men;
            if (m >= MOST_MEN) {
                return fail(MANY);
            }
            step();
            if (lineKind() != NAME) {
                return fail(FORM);
            }
            if (namedMan(draft) >= 0) {
                return fail(AGAIN);
            }
            nameAt[m] = at;
            nameLength[m] = behind - at;
            step();
            int sort = namedSort();
            if (sort < 0) {
                return fail(FORM);
            }
            draft.sorts[m] = sort;
            step();
            if (!passWord("worth") || !passWhole(99)) {
                return false;
            }
            draft.worth[m] = value;
            if (!passWord("coins") || !passWhole(200)) {
                return false;
            }
            draft.coins[m] = value;
            if (!passWord("asks") || !passWhole(99)) {
                return false;
            }
            draft.asks[m] = value;
            draft.men++;
            return true;
        }

        private boolean readKin(Draft draft) {
            if (draft.kins >= MOST_KIN) {
                return fail(MANY);
            }
            step();
            if (!isToldMan(draft)) {
                return false;
            }
            int one = value;
            step();
            if (!isToldMan(draft)) {
                return false;
            }
            int other = value;
            if (one == other || (draft.kin[one] >> other & 1) == 1) {
                return fail(AGAIN);
            }
            draft.kin[one] |= 1 << other;
            draft.kin[other] |= 1 << one;
            draft.kins++;
            step();
            return true;
        }

        private boolean readSpares(Draft draft) {
            step();
            int sort = namedSort();
            if (sort < 0) {
                return fail(FORM);
            }
            if ((draft.spared >> sort & 1) == 1) {
                return fail(AGAIN);
            }
            draft.spared |= 1 << sort;
            step();
            return true;
        }

        private boolean readDoctor(Draft draft) {
            if (draft.hasDoctor) {
                return fail(AGAIN);
            }
            draft.hasDoctor = true;
            step();
            if (!passWord("hits") || !passWhole(100)) {
                return false;
            }
            draft.hits = value;
            if (!passWord("errs") || !passWhole(100)) {
                return false;
            }
            draft.errs = value;
            if (!passWord("share") || !passWhole(100)) {
                return false;
            }
            draft.share = value;
            return true;
        }

        private boolean readWent(Draft draft) {
            if (draft.wents >= MOST_WENT) {
                return fail(MANY);
            }
            step();
            if (!isToldMan(draft)) {
                return false;
            }
            for (int k = 0; k < draft.wents; k++) {
                if (draft.went[k] == value) {
                    return fail(AGAIN);
                }
            }
            draft.went[draft.wents] = value;
            draft.wents++;
            step();
            return true;
        }

        private boolean isWord(String word) {
            if (kind != WORD || behind - at != word.length()) {
                return false;
            }
            for (int i = 0; i < word.length(); i++) {
                if (bytes[at + i] != word.charAt(i)) {
                    return false;
                }
            }
            return true;
        }

        private boolean passWord(String word) {
            if (!isWord(word)) {
                return fail(FORM);
            }
            step();
            return true;
        }

        /** Goes past a whole that is no more than so much; it is the value then. */
        private boolean passWhole(int most) {
            if (kind != WHOLE) {
                return fail(FORM);
            }
            int whole = 0;
            for (int i = at; i < behind; i++) {
                whole = 10 * whole + bytes[i] - '0';
            }
            if (whole > most) {
                return fail(BOUNDS);
            }
            value = whole;
            step();
            return true;
        }

        /** Looks for the man named here; he is the value then. */
        private boolean isToldMan(Draft draft) {
            if (lineKind() != NAME) {
                return fail(FORM);
            }
            value = namedMan(draft);
            return value >= 0 || fail(UNTOLD);
        }

        private int namedMan(Draft draft) {
            for (int m = 0; m < draft.men; m++) {
                if (nameLength[m] == behind - at && isNamed(m)) {
                    return m;
                }
            }
            return NOBODY;
        }

        private boolean isNamed(int m) {
            for (int i = 0; i < nameLength[m]; i++) {
                if (bytes[nameAt[m] + i] != bytes[at + i]) {
                    return false;
                }
            }
            return true;
        }

        private int namedSort() {
            if (isWord("plain")) {
                return PLAIN;
            }
            if (isWord("married")) {
                return MARRIED;
            }
            if (isWord("short")) {
                return SHORT;
            }
            return isWord("lame") ? LAME : NOBODY;
        }
    }
}
