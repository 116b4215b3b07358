import java.util.NoSuchElementException;

/**
 * A cabinet of marzipan heads that melt, lean, fall and vote. The document (DOC.md) numbers
 * what each call promises; words such as HEAD, DAY or ACT in the comments are its terms.
 */
public final class AlmondCabinet {
    /** There is none. */
    public static final int NONE = -1;

    private static final int TAPE = 700;
    private static final int HEADS = 8;
    private static final int HEATS = 8;
    private static final int QUESTIONS = 6;
    private static final int ALL_QUESTIONS = 63;
    private static final int ACTS = 40;
    private static final int SEEN = 8;
    private static final int LATEST_SEEN = 20;
    private static final int FARTHEST = 40;
    private static final int LONGEST_ACT = 20;
    private static final int LAST_DAY = 999;
    private static final int MOST_SUGAR = 99;
    private static final int MOST_ALMOND = 9;
    private static final int MOST_HEAT = 9;
    private static final int MOST_CAST = 50;
    private static final int MOST_LICKED = 9;
    private static final int FALLING = 9;
    private static final int LEANING = 5;
    private static final int MOST_LEANT = 8;
    private static final int LEANS_TRIED = 17;
    private static final int LEFT_SIDE = -1;
    private static final int RIGHT_SIDE = 1;

    private static final int VALUE_SUGAR = 0;
    private static final int VALUE_ALMOND = 1;
    private static final int VALUE_HEAT = 2;
    private static final int VALUE_LEAN = 3;
    private static final int VALUE_DAY = 4;
    private static final int VALUE_LEFT = 5;
    private static final int VALUE_RIGHT = 6;
    private static final int MELTS_VALUES = 5;
    private static final int LEANS_VALUES = 7;

    private static final int REFUSED_TEXT = 0;
    private static final int REFUSED_ACT = 1;
    private static final int REFUSED_SEEN = 2;
    private static final int REFUSALS = 3;

    private final Reader reader = new Reader();
    private int faultPlace = NONE;

    private Recipe recipe = new Recipe();
    private Recipe spareRecipe = new Recipe();
    private final Row now = new Row();
    private final Row trial = new Row();
    private final Acts acts = new Acts();
    private final Seen seen = new Seen();
    private final int[] refused = new int[REFUSALS];
    private final Image kept = new Image();

    private final Draws draws = new Draws();
    private final int[] passedOn = new int[LATEST_SEEN + 1];
    private final long[] outcomes = new long[LATEST_SEEN + 1];

    public AlmondCabinet() {
    }

    // ---- the text

    public int feed(int a, int b, int c, int d, int e) {
        Tape tape = reader.tape;
        if (tape.many + 20 > TAPE) {
            return NONE;
        }
        tape.add(a);
        tape.add(b);
        tape.add(c);
        tape.add(d);
        tape.add(e);
        return tape.many;
    }

    public int cabinet(int n) throws IllegalArgumentException {
        if (n < 0 || n > reader.tape.many) {
            throw new IllegalArgumentException("the tape has not so many");
        }
        int fault = reader.read(n, spareRecipe);
        reader.tape.many = 0;
        if (fault != 0) {
            faultPlace = reader.place;
            refused[REFUSED_TEXT]++;
            return fault;
        }
        faultPlace = NONE;
        Recipe old = recipe;
        recipe = spareRecipe;
        spareRecipe = old;
        now.setOut(recipe);
        acts.clear();
        seen.clear();
        kept.isThere = false;
        return 0;
    }

    public int fault() {
        return faultPlace;
    }

    // ---- what is

    public int count(int what) throws NoSuchElementException {
        needWhat(what, 11);
        switch (what) {
            case 0:
                return now.heads;
            case 1:
                return now.day;
            case 2:
                return recipe.heatOn(now.day);
            case 3:
                return now.standing;
            case 4:
                return now.passing();
            case 5:
                return now.allSugar();
            case 6:
                return acts.many;
            case 7:
                return seen.many;
            case 8:
                return reader.tape.many;
            default:
                return refused[what - 9];
        }
    }

    public int head(int head, int what) throws NoSuchElementException {
        needHead(head);
        needWhat(what, 6);
        switch (what) {
            case 0:
                return now.sugar[head];
            case 1:
                return recipe.almond[head];
            case 2:
                return now.lean[head];
            case 3:
                return now.seatOf[head];
            case 4:
                return now.stands(head) ? 1 : 0;
            case 5:
                return recipe.marbled >> head & 1;
            default:
                return now.opinionOf(head);
        }
    }

    public int seat(int seat) throws NoSuchElementException {
        if (seat < 0 || seat >= now.heads) {
            throw new NoSuchElementException("no such seat");
        }
        return now.headIn[seat];
    }

    // ---- acts

    public int days(int many) {
        if (many < 1 || many > LONGEST_ACT || now.day + many > LAST_DAY) {
            refused[REFUSED_ACT]++;
            return NONE;
        }
        acts.keep(now);
        now.passDays(recipe, many);
        return now.day;
    }

    public boolean prop(int head) throws NoSuchElementException {
        needHead(head);
        if (!now.stands(head) || now.lean[head] == 0) {
            refused[REFUSED_ACT]++;
            return false;
        }
        acts.keep(now);
        now.lean[head] = 0;
        return true;
    }

    public int cast(int head, int more) throws NoSuchElementException {
        needHead(head);
        if (more < 1 || more > MOST_CAST) {
            refused[REFUSED_ACT]++;
            return NONE;
        }
        acts.keep(now);
        now.castAnew(head, more);
        return now.sugar[head];
    }

    public int lick(int head, int less) throws NoSuchElementException {
        needHead(head);
        if (less < 1 || less > MOST_LICKED || now.sugar[head] <= less) {
            refused[REFUSED_ACT]++;
            return NONE;
        }
        acts.keep(now);
        now.sugar[head] -= less;
        return now.sugar[head];
    }

    public int turn(int head, int question) throws NoSuchElementException {
        needHead(head);
        needQuestion(question);
        acts.keep(now);
        now.first[head] ^= 1 << question;
        now.second[head] ^= 1 << question;
        return now.opinionOf(head);
    }

    public boolean change(int head, int other) throws NoSuchElementException {
        needHead(head);
        needHead(other);
        if (head == other) {
            refused[REFUSED_ACT]++;
            return false;
        }
        acts.keep(now);
        now.swapSeats(head, other);
        return true;
    }

    public int undo() {
        if (acts.many == 0) {
            return NONE;
        }
        acts.takeBack(now);
        return acts.many;
    }

    // ---- if only days go by

    public int then(int head, int days, int what) throws NoSuchElementException, IllegalArgumentException {
        needHead(head);
        needWhat(what, 2);
        needDays(days, 0);
        tryDays(days);
        switch (what) {
            case 0:
                return trial.sugar[head];
            case 1:
                return trial.lean[head];
            default:
                return trial.stands(head) ? 1 : 0;
        }
    }

    public int later(int days, int what) throws NoSuchElementException, IllegalArgumentException {
        needWhat(what, 1);
        needDays(days, 0);
        tryDays(days);
        return what == 0 ? trial.standing : trial.passing();
    }

    public int falls(int head) throws NoSuchElementException {
        needHead(head);
        trial.copyFrom(now);
        for (int days = 0; days < FARTHEST && trial.stands(head); days++) {
            trial.passDays(recipe, 1);
        }
        return trial.stands(head) ? NONE : trial.day - now.day;
    }

    public int down(int k) throws IllegalArgumentException {
        needDays(k, 1);
        tryDays(k - 1);
        int before = trial.standing;
        trial.passDays(recipe, 1);
        return before & ~trial.standing;
    }

    public int last() {
        trial.copyFrom(now);
        int latest = trial.standing;
        for (int days = 0; days < FARTHEST && trial.standing != 0; days++) {
            latest = trial.standing;
            trial.passDays(recipe, 1);
        }
        // whoever outlasts all days is later than those who fell on the last one
        return leastOf(trial.standing != 0 ? trial.standing : latest);
    }

    public int tips(int question) throws NoSuchElementException {
        needQuestion(question);
        boolean passesNow = now.passes(question);
        trial.copyFrom(now);
        for (int days = 1; days <= FARTHEST; days++) {
            trial.passDays(recipe, 1);
            if (trial.passes(question) != passesNow) {
                return days;
            }
        }
        return NONE;
    }

    // ---- votes

    public int votes(int question, int what) throws NoSuchElementException {
        needQuestion(question);
        needWhat(what, 1);
        int voters = now.votersFor(question);
        return what == 0 ? voters : now.standing & ~voters;
    }

    public int decisive(int question) throws NoSuchElementException {
        needQuestion(question);
        boolean passesNow = now.passes(question);
        int bits = 0;
        trial.copyFrom(now);
        for (int head = 0; head < now.heads; head++) {
            trial.standing = now.standing & ~(1 << head);
            if (now.stands(head) && trial.passes(question) != passesNow) {
                bits |= 1 << head;
            }
        }
        return bits;
    }

    public int toTurn(int question) throws NoSuchElementException {
        needQuestion(question);
        int opinions = now.opinionsOn(question);
        boolean passesNow = now.passes(question);
        int fewest = NONE;
        for (int turned = 1; turned < 1 << now.heads; turned++) {
            boolean allStand = (turned & ~now.standing) == 0;
            boolean fewer = fewest == NONE || Integer.bitCount(turned) < Integer.bitCount(fewest);
            if (allStand && fewer && now.passesWith(opinions ^ turned) != passesNow) {
                fewest = turned;
            }
        }
        return fewest;
    }

    public int brings(int head, int side) throws NoSuchElementException, IllegalArgumentException {
        needHead(head);
        needSide(side);
        return now.broughtDown(head, side);
    }

    public int agree(int head, int other) throws NoSuchElementException {
        needHead(head);
        needHead(other);
        return likeOpinions(head, other);
    }

    public int party(int head, int many) throws NoSuchElementException, IllegalArgumentException {
        needHead(head);
        if (many < 0 || many > QUESTIONS) {
            throw new IllegalArgumentException("not so many questions");
        }
        int bits = 0;
        for (int other = 0; other < now.heads; other++) {
            if (likeOpinions(head, other) >= many) {
                bits |= 1 << other;
            }
        }
        return bits;
    }

    public int rooms(int what) throws NoSuchElementException {
        needWhat(what, 1);
        int all = now.sugarOf(now.standing);
        int least = all;
        int room = 0;
        for (int set = 1; set < 1 << now.heads; set++) {
            int unlike = Math.abs(all - 2 * now.sugarOf(set));
            if ((set & ~now.standing) == 0 && unlike < least) {
                least = unlike;
                room = set;
            }
        }
        return what == 0 ? least : room;
    }

    public int better() {
        int most = Integer.bitCount(now.passing());
        int couple = NONE;
        trial.copyFrom(now);
        for (int head = 0; head < now.heads; head++) {
            for (int other = head + 1; other < now.heads; other++) {
                trial.swapSeats(head, other);
                int passing = Integer.bitCount(trial.passing());
                trial.swapSeats(head, other);
                if (passing > most) {
                    most = passing;
                    couple = 10 * head + other;
                }
            }
        }
        return couple;
    }

    // ---- sugar and heat

    public int heaviest(int days) throws IllegalArgumentException {
        needDays(days, 0);
        tryDays(days);
        int heaviest = NONE;
        int most = 0;
        for (int head = 0; head < trial.heads; head++) {
            if (trial.stands(head) && trial.sugar[head] > most) {
                most = trial.sugar[head];
                heaviest = head;
            }
        }
        return heaviest;
    }

    public int melted(int days) throws IllegalArgumentException {
        needDays(days, 0);
        tryDays(days);
        return now.allSugar() - trial.allSugar();
    }

    public int hottest(int days) throws IllegalArgumentException {
        needDays(days, 1);
        int hottest = 0;
        for (int day = 1; day < days; day++) {
            if (recipe.heatOn(now.day + day) > recipe.heatOn(now.day + hottest)) {
                hottest = day;
            }
        }
        return hottest;
    }

    public int worst(int side, int what) throws NoSuchElementException, IllegalArgumentException {
        needWhat(what, 1);
        needSide(side);
        int worst = NONE;
        int most = 0;
        for (int head = 0; head < now.heads; head++) {
            int many = Integer.bitCount(now.broughtDown(head, side));
            if (many > most) {
                most = many;
                worst = head;
            }
        }
        return what == 0 ? worst : most;
    }

    public int toCast(int head, int days) throws NoSuchElementException, IllegalArgumentException {
        needHead(head);
        needDays(days, 0);
        // more than 99 is the same as 99, so there is nothing to try beyond
        int most = Math.min(MOST_CAST, MOST_SUGAR - now.sugar[head]);
        for (int more = 0; more <= most && now.stands(head); more++) {
            trial.copyFrom(now);
            trial.sugar[head] += more;
            trial.passDays(recipe, days);
            if (trial.stands(head)) {
                return more;
            }
        }
        return NONE;
    }

    // ---- how they stand to one another

    public int margin(int question) throws NoSuchElementException {
        needQuestion(question);
        return marginOn(question);
    }

    public int agreed() {
        int bits = 0;
        for (int question = 0; question < QUESTIONS; question++) {
            int voters = now.votersFor(question);
            if (voters == 0 || voters == now.standing) {
                bits |= 1 << question;
            }
        }
        return bits;
    }

    public int factions() {
        long kinds = 0;
        for (int head = 0; head < now.heads; head++) {
            if (now.stands(head)) {
                kinds |= 1L << now.opinionOf(head);
            }
        }
        return Long.bitCount(kinds);
    }

    public int wins(int head) throws NoSuchElementException {
        needHead(head);
        if (!now.stands(head)) {
            return 0;
        }
        return ALL_QUESTIONS & ~(now.ballotOf(head) ^ now.passing());
    }

    public int middle() {
        int before = (Integer.bitCount(now.standing) - 1) / 2;
        for (int seat = 0; seat < now.heads; seat++) {
            if (now.stands(now.headIn[seat])) {
                if (before == 0) {
                    return now.headIn[seat];
                }
                before--;
            }
        }
        return NONE;
    }

    public int neighbour(int head, int side) throws NoSuchElementException, IllegalArgumentException {
        needHead(head);
        needSide(side);
        return now.nextTo(head, side);
    }

    public int ties() {
        int bits = 0;
        for (int question = 0; question < QUESTIONS; question++) {
            if (marginOn(question) == 0) {
                bits |= 1 << question;
            }
        }
        return bits;
    }

    public int leaning() {
        int bits = 0;
        for (int head = 0; head < now.heads; head++) {
            if (now.stands(head) && Math.abs(now.lean[head]) >= LEANING) {
                bits |= 1 << head;
            }
        }
        return bits;
    }

    public int between(int head, int other) throws NoSuchElementException {
        needHead(head);
        needHead(other);
        int left = Math.min(now.seatOf[head], now.seatOf[other]);
        int right = Math.max(now.seatOf[head], now.seatOf[other]);
        int many = 0;
        for (int seat = left + 1; seat < right; seat++) {
            if (now.stands(now.headIn[seat])) {
                many++;
            }
        }
        return many;
    }

    // ---- what is seen

    public int see(int question, int days, boolean passed) throws NoSuchElementException {
        needQuestion(question);
        if (seen.many >= SEEN || days < 0 || days > LATEST_SEEN) {
            refused[REFUSED_SEEN]++;
            return NONE;
        }
        seen.add(question, days, passed);
        return seen.many;
    }

    public int leant(int what) throws NoSuchElementException {
        needWhat(what, 2);
        int latest = seen.latestDay();
        if (what == 2) {
            trial.copyFrom(now);
            foresee(0, latest);
            return seen.isSo(passedOn) ? 1 : 0;
        }
        int many = 0;
        int earliest = NONE;
        for (int guess = 0; guess < HEADS * LEANS_TRIED; guess++) {
            if (tryGuess(guess, latest)) {
                many++;
                if (earliest == NONE) {
                    earliest = 100 * (guess / LEANS_TRIED) + guess % LEANS_TRIED;
                }
            }
        }
        return what == 0 ? many : earliest;
    }

    public int look(int what) throws NoSuchElementException {
        needWhat(what, 1);
        int latest = seen.latestDay();
        for (int day = 0; day <= LATEST_SEEN; day++) {
            outcomes[day] = 0;
        }
        for (int guess = 0; guess < HEADS * LEANS_TRIED; guess++) {
            if (tryGuess(guess, latest)) {
                foresee(latest + 1, LATEST_SEEN);
                noteOutcomes();
            }
        }
        int most = 0;
        int when = NONE;
        for (int day = 1; day <= LATEST_SEEN; day++) {
            int unlike = Long.bitCount(outcomes[day]);
            if (unlike > most) {
                most = unlike;
                when = day;
            }
        }
        return what == 0 ? when : most;
    }

    public void forget() {
        seen.clear();
    }

    // ---- games

    public int game(int head, int other, int question, int what)
            throws NoSuchElementException, IllegalArgumentException {
        needHead(head);
        needHead(other);
        needQuestion(question);
        needWhat(what, 1);
        if (head == other) {
            throw new IllegalArgumentException("both are one");
        }
        if (!now.stands(head) || !now.stands(other)) {
            return NONE;
        }
        int many = 0;
        int earliest = NONE;
        for (int couple = 0; couple < 4; couple++) {
            int mine = couple >> 1;
            int theirs = couple & 1;
            if (staysWith(head, other, mine, theirs, question) && staysWith(other, head, theirs, mine, question)) {
                many++;
                if (earliest == NONE) {
                    earliest = 10 * mine + theirs;
                }
            }
        }
        return what == 0 ? many : earliest;
    }

    public int years(int seed, int n, int what) throws NoSuchElementException, IllegalArgumentException {
        needWhat(what, 2);
        needDays(n, 0);
        trial.copyFrom(now);
        draws.seed = seed;
        for (int day = 0; day < n; day++) {
            int heat = draws.below(10);
            if (trial.heads > 0) {
                int head = draws.below(trial.heads);
                trial.befall(head, draws.below(5));
            }
            trial.passDay(recipe, heat);
        }
        switch (what) {
            case 0:
                return trial.standing;
            case 1:
                return trial.allSugar();
            default:
                return Integer.bitCount(trial.passing());
        }
    }

    // ---- the image

    public void image() {
        kept.isThere = true;
        kept.row.copyFrom(now);
        kept.acts.copyFrom(acts);
        kept.seen.copyFrom(seen);
        System.arraycopy(refused, 0, kept.refused, 0, REFUSALS);
    }

    public boolean restore() {
        if (!kept.isThere) {
            return false;
        }
        now.copyFrom(kept.row);
        acts.copyFrom(kept.acts);
        seen.copyFrom(kept.seen);
        System.arraycopy(kept.refused, 0, refused, 0, REFUSALS);
        return true;
    }

    // ---- what calls must have

    private void needHead(int head) {
        if (head < 0 || head >= now.heads) {
            throw new NoSuchElementException("no such head");
        }
    }

    private static void needQuestion(int question) {
        if (question < 0 || question >= QUESTIONS) {
            throw new NoSuchElementException("no such question");
        }
    }

    private static void needWhat(int what, int most) {
        if (what < 0 || what > most) {
            throw new NoSuchElementException("no such what");
        }
    }

    private static void needDays(int days, int fewest) {
        if (days < fewest || days > FARTHEST) {
            throw new IllegalArgumentException("not so many days");
        }
    }

    private static void needSide(int side) {
        if (side != LEFT_SIDE && side != RIGHT_SIDE) {
            throw new IllegalArgumentException("no such side");
        }
    }

    // ---- helpers of the face

    private void tryDays(int days) {
        trial.copyFrom(now);
        trial.passDays(recipe, days);
    }

    private int likeOpinions(int head, int other) {
        return QUESTIONS - Integer.bitCount(now.opinionOf(head) ^ now.opinionOf(other));
    }

    private int marginOn(int question) {
        return 2 * Integer.bitCount(now.votersFor(question)) - Integer.bitCount(now.standing);
    }

    /** Of one head: whether it would not gain more by the other choice. */
    private boolean staysWith(int head, int other, int mine, int theirs, int question) {
        return gain(head, other, mine, theirs, question) >= gain(head, other, 1 - mine, theirs, question);
    }

    private int gain(int head, int other, int mine, int theirs, int question) {
        int opinions = now.opinionsOn(question) ^ (mine << head) ^ (theirs << other);
        boolean isFor = (opinions >> head & 1) != 0;
        return (now.passesWith(opinions) == isFor ? 5 : 0) - mine;
    }

    /**
     * Guesses go head by head, of each the leans from -8 to 8: whether this one is a guess at
     * all and all that is seen would be so by it. The trial row stands at the latest day then.
     */
    private boolean tryGuess(int guess, int latest) {
        int head = guess / LEANS_TRIED;
        int lean = guess % LEANS_TRIED - MOST_LEANT;
        if (head >= now.heads || !now.stands(head) || now.lean[head] == lean) {
            return false;
        }
        trial.copyFrom(now);
        trial.lean[head] = lean;
        foresee(0, latest);
        return seen.isSo(passedOn);
    }

    private void foresee(int from, int to) {
        for (int day = Math.max(0, from); day <= to && day < passedOn.length; day++) {
            if (day > 0) {
                trial.passDay(recipe, recipe.heatOn(trial.day));
            }
            passedOn[day] = trial.passing();
        }
    }

    private void noteOutcomes() {
        for (int day = 0; day <= LATEST_SEEN; day++) {
            outcomes[day] |= 1L << passedOn[day];
        }
    }

    private static int leastOf(int bits) {
        return bits == 0 ? NONE : Integer.numberOfTrailingZeros(bits);
    }

    // ---- the text's words and tokens

    /** The language's words, with the place of each among a rule's values, if it is one. */
    private enum Word {
        HEAD("head", NONE),
        MARBLED("marbled", NONE),
        MELTS("melts", NONE),
        LEANS("leans", NONE),
        OR("or", NONE),
        AND("and", NONE),
        NOT("not", NONE),
        SUGAR("sugar", VALUE_SUGAR),
        ALMOND("almond", VALUE_ALMOND),
        HEAT("heat", VALUE_HEAT),
        LEAN("lean", VALUE_LEAN),
        DAY("day", VALUE_DAY),
        LEFT("left", VALUE_LEFT),
        RIGHT("right", VALUE_RIGHT);

        private static final Word[] ALL = values();

        private final String text;
        private final int place;

        Word(String text, int place) {
            this.text = text;
            this.place = place;
        }

        private boolean isSpelt(byte[] bytes, int from, int to) {
            if (from < 0 || to > bytes.length || to - from != text.length()) {
                return false;
            }
            for (int k = from; k < to; k++) {
                if (bytes[k] != text.charAt(k - from)) {
                    return false;
                }
            }
            return true;
        }
    }

    /** The bytes, the token at hand, and the step to the next one. A sign's kind is the sign itself. */
    private static final class Tape {
        private static final int END = 0;
        private static final int WORD = 1;
        private static final int NUMBER = 2;
        private static final int NOTHING = 3;
        private static final int TOO_LONG = 10000;
        private static final String SIGNS = ";()+-*/<=";

        private final byte[] bytes = new byte[TAPE];
        private int many = 0;
        private int end = 0;
        private int next = 0;
        private int kind = END;
        private int start = 0;
        private int number = 0;

        private void add(int four) {
            for (int shift = 24; shift >= 0 && many < TAPE; shift -= 8) {
                bytes[many] = (byte) (four >> shift);
                many++;
            }
        }

        private void begin(int length) {
            end = Math.min(length, many);
            next = 0;
            step();
        }

        private void step() {
            while (next < end && (bytes[next] == ' ' || bytes[next] == '\n')) {
                next++;
            }
            start = next;
            if (next >= end) {
                kind = END;
            } else if (isIn(bytes[next], 'a', 'z')) {
                kind = WORD;
                while (next < end && isIn(bytes[next], 'a', 'z')) {
                    next++;
                }
            } else if (isIn(bytes[next], '0', '9')) {
                kind = NUMBER;
                number = 0;
                while (next < end && isIn(bytes[next], '0', '9')) {
                    // leading zeros are digits too, so it is the length that decides
                    number = next - start < 4 ? 10 * number + bytes[next] - '0' : TOO_LONG;
                    next++;
                }
            } else {
                int sign = bytes[next] & 255;
                kind = SIGNS.indexOf((char) sign) >= 0 ? sign : NOTHING;
                next++;
            }
        }

        private boolean isWord(Word wanted) {
            return kind == WORD && wanted.isSpelt(bytes, start, next);
        }

        /** The place of the word at hand among a rule's values. */
        private int valueHere() {
            for (int k = 0; k < Word.ALL.length; k++) {
                if (isWord(Word.ALL[k])) {
                    return Word.ALL[k].place;
                }
            }
            return NONE;
        }

        private static boolean isIn(int sign, char least, char most) {
            return sign >= least && sign <= most;
        }
    }

    // ---- reading

    /** Reads a text into a recipe, up to its first fault. */
    private static final class Reader {
        private static final int WRONG = 1;
        private static final int TOO_MUCH = 2;
        private static final int NO_VALUE = 3;
        private static final int TWICE = 5;
        private static final int DEEPEST = 5;
        private static final int MOST_NOTS = 6;

        private final Tape tape = new Tape();
        private int fault = 0;
        private int place = NONE;

        private int read(int length, Recipe recipe) {
            fault = 0;
            place = NONE;
            recipe.clear();
            tape.begin(length);
            for (int line = 0; line < TAPE && fault == 0 && tape.kind != Tape.END; line++) {
                readLine(recipe);
            }
            return fault;
        }

        private void readLine(Recipe recipe) {
            if (tape.isWord(Word.HEAD)) {
                readHead(recipe, false);
            } else if (tape.isWord(Word.MARBLED)) {
                readHead(recipe, true);
            } else if (tape.isWord(Word.HEAT)) {
                readHeat(recipe);
            } else if (tape.isWord(Word.MELTS)) {
                readRule(recipe, recipe.melts);
            } else if (tape.isWord(Word.LEANS)) {
                readRule(recipe, recipe.leans);
            } else {
                fail(WRONG);
            }
        }

        private void readHead(Recipe recipe, boolean marbled) {
            if (recipe.heads >= HEADS) {
                fail(TOO_MUCH);
                return;
            }
            tape.step();
            int sugar = readNumber(1, MOST_SUGAR);
            int almond = readNumber(0, MOST_ALMOND);
            int first = readNumber(0, ALL_QUESTIONS);
            int second = marbled ? readNumber(0, ALL_QUESTIONS) : first;
            readSign(';');
            if (fault == 0) {
                recipe.addHead(sugar, almond, first, second, marbled);
            }
        }

        private void readHeat(Recipe recipe) {
            if (recipe.heats > 0) {
                fail(TWICE);
                return;
            }
            tape.step();
            recipe.addHeat(readNumber(0, MOST_HEAT));
            for (int k = 1; k < HEATS && fault == 0 && tape.kind == Tape.NUMBER; k++) {
                recipe.addHeat(readNumber(0, MOST_HEAT));
            }
            if (fault == 0 && tape.kind == Tape.NUMBER) {
                fail(TOO_MUCH);
            }
            readSign(';');
        }

        private void readRule(Recipe recipe, Rule rule) {
            if (rule.isGiven) {
                fail(TWICE);
                return;
            }
            tape.step();
            rule.isGiven = true;
            rule.from = recipe.codes;
            readExpr(recipe, rule, 0);
            rule.to = recipe.codes;
            readSign(';');
        }

        private void readExpr(Recipe recipe, Rule rule, int depth) {
            if (depth > DEEPEST) {
                boolean couldBegin = tape.kind == Tape.NUMBER || tape.kind == Tape.WORD || tape.kind == '(';
                fail(couldBegin ? TOO_MUCH : WRONG);
                return;
            }
            readLevel(recipe, rule, Rule.OR_LEVEL, depth);
        }

        /** A row of parts that bind closer, with operators of this level between them. */
        private void readLevel(Recipe recipe, Rule rule, int level, int depth) {
            if (fault != 0) {
                return;
            }
            if (level == Rule.TEST_LEVEL) {
                readTest(recipe, rule, depth);
                return;
            }
            if (level > Rule.PRODUCT_LEVEL) {
                readPart(recipe, rule, depth);
                return;
            }
            readLevel(recipe, rule, level + 1, depth);
            for (int k = 0; k < TAPE && fault == 0; k++) {
                int operator = operatorHere();
                if (Rule.levelOf(operator) != level) {
                    return;
                }
                tape.step();
                readLevel(recipe, rule, level + 1, depth);
                recipe.addCode(operator);
            }
        }

        private void readTest(Recipe recipe, Rule rule, int depth) {
            int nots = 0;
            while (nots < MOST_NOTS && tape.isWord(Word.NOT)) {
                tape.step();
                nots++;
            }
            if (nots == MOST_NOTS && tape.isWord(Word.NOT)) {
                fail(TOO_MUCH);
            }
            readLevel(recipe, rule, Rule.TEST_LEVEL + 1, depth);
            int operator = operatorHere();
            if (fault == 0 && Rule.levelOf(operator) == Rule.TEST_LEVEL) {
                tape.step();
                readLevel(recipe, rule, Rule.TEST_LEVEL + 1, depth);
                recipe.addCode(operator);
            }
            for (int k = 0; k < nots; k++) {
                recipe.addCode(Rule.NOT);
            }
        }

        private void readPart(Recipe recipe, Rule rule, int depth) {
            if (tape.kind == Tape.NUMBER) {
                recipe.addCode(readNumber(0, Tape.TOO_LONG - 1));
            } else if (tape.kind == Tape.WORD) {
                int value = tape.valueHere();
                if (value == NONE || value >= rule.values) {
                    fail(NO_VALUE);
                    return;
                }
                recipe.addCode(Rule.FIRST_VALUE - value);
                tape.step();
            } else if (tape.kind == '(') {
                tape.step();
                readExpr(recipe, rule, depth + 1);
                readSign(')');
            } else {
                fail(WRONG);
            }
        }

        private int operatorHere() {
            switch (tape.kind) {
                case Tape.WORD:
                    if (tape.isWord(Word.OR)) {
                        return Rule.OR;
                    }
                    return tape.isWord(Word.AND) ? Rule.AND : Rule.NO_OPERATOR;
                case '<':
                    return Rule.LESS;
                case '=':
                    return Rule.LIKE;
                case '+':
                    return Rule.PLUS;
                case '-':
                    return Rule.MINUS;
                case '*':
                    return Rule.TIMES;
                case '/':
                    return Rule.OVER;
                default:
                    return Rule.NO_OPERATOR;
            }
        }

        private int readNumber(int least, int most) {
            if (fault != 0) {
                return 0;
            }
            if (tape.kind != Tape.NUMBER) {
                fail(WRONG);
                return 0;
            }
            int number = tape.number;
            if (number < least || number > most) {
                fail(TOO_MUCH);
                return 0;
            }
            tape.step();
            return number;
        }

        private void readSign(char sign) {
            if (fault != 0) {
                return;
            }
            if (tape.kind != sign) {
                fail(WRONG);
                return;
            }
            tape.step();
        }

        private void fail(int which) {
            if (fault == 0) {
                fault = which;
                place = tape.start;
            }
        }
    }

    // ---- what a text tells

    /** Where a recipe's codes hold an EXPR, and what the codes mean. */
    private static final class Rule {
        // a number stands for itself, so all else is below 0
        private static final int FIRST_VALUE = -1;
        private static final int NOT = -8;
        private static final int OR = -9;
        private static final int AND = -10;
        private static final int LESS = -11;
        private static final int LIKE = -12;
        private static final int PLUS = -13;
        private static final int MINUS = -14;
        private static final int TIMES = -15;
        private static final int OVER = -16;
        private static final int NO_OPERATOR = -17;

        private static final int NO_LEVEL = -1;
        private static final int OR_LEVEL = 0;
        private static final int AND_LEVEL = 1;
        private static final int TEST_LEVEL = 2;
        private static final int SUM_LEVEL = 3;
        private static final int PRODUCT_LEVEL = 4;

        private final int values;
        private boolean isGiven = false;
        private int from = 0;
        private int to = 0;

        Rule(int values) {
            this.values = values;
        }

        private static int levelOf(int operator) {
            switch (operator) {
                case OR:
                    return OR_LEVEL;
                case AND:
                    return AND_LEVEL;
                case LESS:
                case LIKE:
                    return TEST_LEVEL;
                case PLUS:
                case MINUS:
                    return SUM_LEVEL;
                case TIMES:
                case OVER:
                    return PRODUCT_LEVEL;
                default:
                    return NO_LEVEL;
            }
        }

        private static int joined(int operator, int a, int b) {
            switch (operator) {
                case OR:
                    return a != 0 || b != 0 ? 1 : 0;
                case AND:
                    return a != 0 && b != 0 ? 1 : 0;
                case LESS:
                    return a < b ? 1 : 0;
                case LIKE:
                    return a == b ? 1 : 0;
                case PLUS:
                    return a + b;
                case MINUS:
                    return a - b;
                case TIMES:
                    return a * b;
                default:
                    return b == 0 ? 0 : a / b;
            }
        }
    }

    /** What a text tells and no call changes: heads as they are at first, heat, both rules. */
    private static final class Recipe {
        private static final int USUAL_HEAT = 4;
        // six EXPRs in one another, each with five levels that may wait for a second part
        private static final int WAITING = 40;

        private int heads = 0;
        private int marbled = 0;
        private final int[] sugar = new int[HEADS];
        private final int[] almond = new int[HEADS];
        private final int[] first = new int[HEADS];
        private final int[] second = new int[HEADS];
        private int heats = 0;
        private final int[] heat = new int[HEATS];
        private final Rule melts = new Rule(MELTS_VALUES);
        private final Rule leans = new Rule(LEANS_VALUES);
        // both rules' codes, parts ahead of what joins them; a token makes at most one
        private final int[] code = new int[TAPE];
        private int codes = 0;
        private final int[] waiting = new int[WAITING];

        private void clear() {
            heads = 0;
            marbled = 0;
            heats = 0;
            codes = 0;
            melts.isGiven = false;
            leans.isGiven = false;
        }

        private void addHead(int itsSugar, int itsAlmond, int itsFirst, int itsSecond, boolean isMarbled) {
            if (heads >= HEADS) {
                return;
            }
            sugar[heads] = itsSugar;
            almond[heads] = itsAlmond;
            first[heads] = itsFirst;
            second[heads] = itsSecond;
            marbled |= (isMarbled ? 1 : 0) << heads;
            heads++;
        }

        private void addHeat(int number) {
            if (heats < HEATS) {
                heat[heats] = number;
                heats++;
            }
        }

        private void addCode(int its) {
            if (codes < TAPE) {
                code[codes] = its;
                codes++;
            }
        }

        private int heatOn(int day) {
            return heats == 0 ? USUAL_HEAT : heat[Math.floorMod(day, heats)];
        }

        /** What a rule gives for the values of a head. */
        private int worth(Rule rule, int[] known) {
            int many = 0;
            for (int at = rule.from; at < rule.to && at < codes; at++) {
                int its = code[at];
                if (its > Rule.NOT) {
                    int value = Rule.FIRST_VALUE - its;
                    if (many < WAITING && value < known.length) {
                        waiting[many] = its >= 0 ? its : known[value];
                        many++;
                    }
                } else if (its == Rule.NOT) {
                    if (many > 0) {
                        waiting[many - 1] = waiting[many - 1] == 0 ? 1 : 0;
                    }
                } else if (many > 1) {
                    waiting[many - 2] = Rule.joined(its, waiting[many - 2], waiting[many - 1]);
                    many--;
                }
            }
            return waiting[0];
        }
    }

    // ---- the heads

    /** The heads in their seats, as days and acts leave them. */
    private static final class Row {
        private static final int MOST_MELTED = 20;
        private static final int MOST_SWAY = 3;
        private static final int KNOCK = 2;
        private static final int HOT = 5;
        private static final int YEARS_SUGAR = 9;
        private static final int PACKED = HEADS + 1;

        private int heads = 0;
        private int day = 0;
        private int standing = 0;
        private final int[] sugar = new int[HEADS];
        private final int[] lean = new int[HEADS];
        // the opinions of the two parts; alike in who is not marbled
        private final int[] first = new int[HEADS];
        private final int[] second = new int[HEADS];
        private final int[] seatOf = new int[HEADS];
        private final int[] headIn = new int[HEADS];

        private final int[] sways = new int[HEADS];
        private final int[] known = new int[LEANS_VALUES];
        private final int[] tally = new int[QUESTIONS];

        private void setOut(Recipe recipe) {
            heads = recipe.heads;
            day = 0;
            standing = (1 << heads) - 1;
            for (int head = 0; head < heads; head++) {
                sugar[head] = recipe.sugar[head];
                lean[head] = 0;
                first[head] = recipe.first[head];
                second[head] = recipe.second[head];
                seatOf[head] = head;
                headIn[head] = head;
            }
        }

        private void copyFrom(Row other) {
            heads = other.heads;
            day = other.day;
            standing = other.standing;
            System.arraycopy(other.sugar, 0, sugar, 0, HEADS);
            System.arraycopy(other.lean, 0, lean, 0, HEADS);
            System.arraycopy(other.first, 0, first, 0, HEADS);
            System.arraycopy(other.second, 0, second, 0, HEADS);
            System.arraycopy(other.seatOf, 0, seatOf, 0, HEADS);
            System.arraycopy(other.headIn, 0, headIn, 0, HEADS);
        }

        // many rows are kept for undo, so a head is put into one number: sugar 7 bits, lean 5,
        // whether it stands 1, seat 3, opinions twice 6
        private void pack(int[] into, int at) {
            if (at < 0 || at + PACKED > into.length) {
                return;
            }
            into[at] = day;
            for (int head = 0; head < heads; head++) {
                into[at + 1 + head] = sugar[head] | lean[head] + FALLING << 7 | (standing >> head & 1) << 12
                        | seatOf[head] << 13 | first[head] << 16 | second[head] << 22;
            }
        }

        private void unpack(int[] from, int at) {
            if (at < 0 || at + PACKED > from.length) {
                return;
            }
            day = from[at];
            standing = 0;
            for (int head = 0; head < heads; head++) {
                int packed = from[at + 1 + head];
                sugar[head] = packed & 127;
                lean[head] = (packed >> 7 & 31) - FALLING;
                standing |= (packed >> 12 & 1) << head;
                seatOf[head] = packed >> 13 & 7;
                headIn[seatOf[head]] = head;
                first[head] = packed >> 16 & ALL_QUESTIONS;
                second[head] = packed >> 22 & ALL_QUESTIONS;
            }
        }

        private boolean stands(int head) {
            return (standing >> head & 1) != 0;
        }

        /** The next one who stands on a side of a head. */
        private int nextTo(int head, int side) {
            int seat = seatOf[head];
            for (int k = 1; k < heads; k++) {
                seat += side;
                if (seat < 0 || seat >= heads) {
                    return NONE;
                }
                if ((standing >> headIn[seat] & 1) != 0) {
                    return headIn[seat];
                }
            }
            return NONE;
        }

        private int sugarOf(int bits) {
            int all = 0;
            for (int head = 0; head < heads; head++) {
                all += (bits >> head & 1) * sugar[head];
            }
            return all;
        }

        private int allSugar() {
            return sugarOf((1 << heads) - 1);
        }

        // ---- acts

        private void castAnew(int head, int more) {
            sugar[head] = Math.min(MOST_SUGAR, sugar[head] + more);
            if (!stands(head)) {
                standing |= 1 << head;
                lean[head] = 0;
            }
        }

        private void swapSeats(int head, int other) {
            int seat = seatOf[head];
            seatOf[head] = seatOf[other];
            seatOf[other] = seat;
            headIn[seatOf[head]] = head;
            headIn[seatOf[other]] = other;
        }

        /** What a day of the years by a seed does to a head ahead of it. */
        private void befall(int head, int drawn) {
            if (drawn == 0) {
                castAnew(head, YEARS_SUGAR);
            } else if (drawn == 1 && stands(head)) {
                lean[head] = 0;
            } else if (drawn == 2 && stands(head) && sugar[head] > YEARS_SUGAR) {
                sugar[head] -= YEARS_SUGAR;
            }
        }

        // ---- a day

        private void passDays(Recipe recipe, int many) {
            for (int k = 0; k < many; k++) {
                passDay(recipe, recipe.heatOn(day));
            }
        }

        private void passDay(Recipe recipe, int heat) {
            melt(recipe, heat);
            sway(recipe, heat);
            for (int seat = 0; seat < heads; seat++) {
                int head = headIn[seat];
                if (stands(head) && Math.abs(lean[head]) == FALLING) {
                    topple(head, lean[head] > 0 ? RIGHT_SIDE : LEFT_SIDE);
                }
            }
            day++;
        }

        private void melt(Recipe recipe, int heat) {
            for (int head = 0; head < heads; head++) {
                if (!stands(head)) {
                    continue;
                }
                int less = heat - recipe.almond[head];
                if (recipe.melts.isGiven) {
                    know(recipe, head, heat);
                    less = recipe.worth(recipe.melts, known);
                }
                sugar[head] = Math.max(0, sugar[head] - within(less, 0, MOST_MELTED));
                if (sugar[head] == 0) {
                    standing &= ~(1 << head);
                }
            }
        }

        private void sway(Recipe recipe, int heat) {
            for (int head = 0; head < heads; head++) {
                sways[head] = stands(head) ? swayOf(recipe, head, heat) : 0;
            }
            for (int head = 0; head < heads; head++) {
                lean[head] = within(lean[head] + sways[head], -FALLING, FALLING);
            }
        }

        private int swayOf(Recipe recipe, int head, int heat) {
            int onLeft = nextTo(head, LEFT_SIDE);
            int onRight = nextTo(head, RIGHT_SIDE);
            int left = onLeft == NONE ? 0 : sugar[onLeft];
            int right = onRight == NONE ? 0 : sugar[onRight];
            if (recipe.leans.isGiven) {
                know(recipe, head, heat);
                known[VALUE_LEFT] = left;
                known[VALUE_RIGHT] = right;
                return within(recipe.worth(recipe.leans, known), -MOST_SWAY, MOST_SWAY);
            }
            return heat >= HOT ? Integer.compare(left, right) : 0;
        }

        private void know(Recipe recipe, int head, int heat) {
            known[VALUE_SUGAR] = sugar[head];
            known[VALUE_ALMOND] = recipe.almond[head];
            known[VALUE_HEAT] = heat;
            known[VALUE_LEAN] = lean[head];
            known[VALUE_DAY] = day;
        }

        private void topple(int head, int side) {
            int falling = head;
            for (int k = 0; k < heads && falling != NONE; k++) {
                standing &= ~(1 << falling);
                int next = nextTo(falling, side);
                if (next != NONE) {
                    lean[next] = within(lean[next] + KNOCK * side, -FALLING, FALLING);
                    next = lean[next] == FALLING * side ? next : NONE;
                }
                falling = next;
            }
        }

        private int broughtDown(int head, int side) {
            if (!stands(head)) {
                return 0;
            }
            int fallen = 1 << head;
            int next = nextTo(head, side);
            for (int k = 0; k < heads && next != NONE && lean[next] * side + KNOCK >= FALLING; k++) {
                fallen |= 1 << next;
                next = nextTo(next, side);
            }
            return fallen;
        }

        private static int within(int number, int least, int most) {
            return Math.max(least, Math.min(most, number));
        }

        // ---- votes

        private int opinionOf(int head) {
            return lean[head] >= 0 ? first[head] : second[head];
        }

        /** The heads, standing or not, whose opinion is for a question. */
        private int opinionsOn(int question) {
            int bits = 0;
            for (int head = 0; head < heads; head++) {
                bits |= (opinionOf(head) >> question & 1) << head;
            }
            return bits;
        }

        /** Whose opinion a head votes by. */
        private int followedBy(int head) {
            int followed = NONE;
            if (lean[head] >= LEANING) {
                followed = nextTo(head, RIGHT_SIDE);
            } else if (lean[head] <= -LEANING) {
                followed = nextTo(head, LEFT_SIDE);
            }
            return followed == NONE ? head : followed;
        }

        /** The questions for which a head votes. */
        private int ballotOf(int head) {
            return opinionOf(followedBy(head));
        }

        /** Who votes for a question, if these heads are for it by opinion. */
        private int votersWith(int opinions) {
            int voters = 0;
            for (int head = 0; head < heads; head++) {
                if (stands(head)) {
                    voters |= (opinions >> followedBy(head) & 1) << head;
                }
            }
            return voters;
        }

        private int votersFor(int question) {
            return votersWith(opinionsOn(question));
        }

        private boolean passesWith(int opinions) {
            return 2 * Integer.bitCount(votersWith(opinions)) > Integer.bitCount(standing);
        }

        private boolean passes(int question) {
            return passesWith(opinionsOn(question));
        }

        /** The questions that pass; one walk along the heads, for it is asked most often. */
        private int passing() {
            for (int question = 0; question < QUESTIONS; question++) {
                tally[question] = 0;
            }
            for (int head = 0; head < heads; head++) {
                int ballot = stands(head) ? ballotOf(head) : 0;
                for (int question = 0; question < QUESTIONS; question++) {
                    tally[question] += ballot >> question & 1;
                }
            }
            int all = Integer.bitCount(standing);
            int bits = 0;
            for (int question = 0; question < QUESTIONS; question++) {
                if (2 * tally[question] > all) {
                    bits |= 1 << question;
                }
            }
            return bits;
        }
    }

    // ---- what is kept

    /** The rows as they were ahead of the latest acts; the oldest gives way. */
    private static final class Acts {
        private final int[] rows = new int[ACTS * Row.PACKED];
        private int many = 0;
        private int next = 0;

        private void clear() {
            many = 0;
            next = 0;
        }

        private void keep(Row row) {
            row.pack(rows, next * Row.PACKED);
            next = (next + 1) % ACTS;
            many = Math.min(ACTS, many + 1);
        }

        private void takeBack(Row row) {
            if (many == 0) {
                return;
            }
            next = (next + ACTS - 1) % ACTS;
            many--;
            row.unpack(rows, next * Row.PACKED);
        }

        private void copyFrom(Acts other) {
            System.arraycopy(other.rows, 0, rows, 0, rows.length);
            many = other.many;
            next = other.next;
        }
    }

    /** What is seen: of some questions, whether they passed behind so many days. */
    private static final class Seen {
        private final int[] question = new int[SEEN];
        private final int[] days = new int[SEEN];
        private final int[] passed = new int[SEEN];
        private int many = 0;

        private void clear() {
            many = 0;
        }

        private void add(int itsQuestion, int itsDays, boolean itPassed) {
            if (many < SEEN) {
                question[many] = itsQuestion;
                days[many] = itsDays;
                passed[many] = itPassed ? 1 : 0;
                many++;
            }
        }

        private int latestDay() {
            int latest = 0;
            for (int k = 0; k < many; k++) {
                latest = Math.max(latest, days[k]);
            }
            return latest;
        }

        private boolean isSo(int[] passedOn) {
            for (int k = 0; k < many; k++) {
                if (days[k] >= passedOn.length || (passedOn[days[k]] >> question[k] & 1) != passed[k]) {
                    return false;
                }
            }
            return true;
        }

        private void copyFrom(Seen other) {
            System.arraycopy(other.question, 0, question, 0, SEEN);
            System.arraycopy(other.days, 0, days, 0, SEEN);
            System.arraycopy(other.passed, 0, passed, 0, SEEN);
            many = other.many;
        }
    }

    /** What an image keeps. */
    private static final class Image {
        private boolean isThere = false;
        private final Row row = new Row();
        private final Acts acts = new Acts();
        private final Seen seen = new Seen();
        private final int[] refused = new int[REFUSALS];
    }

    /** Draws by a seed. */
    private static final class Draws {
        private int seed = 0;

        private int below(int many) {
            seed = seed * 1103515245 + 12345;
            return many <= 0 ? 0 : (seed >>> 16 & 32767) % many;
        }
    }
}
