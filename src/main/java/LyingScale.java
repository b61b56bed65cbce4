/**
 * A scale that may lie: coins of which at most one is false, weighings whose answers may be lies,
 * the cases that are left by their lies, bounds by counts, a plan of weighings as a code, a hidden
 * case that answers by itself, and orders that are read from a text.
 */
public final class LyingScale {
    public static final int NONE = -1;

    private static final int LEFT_HEAVIER = 0;
    private static final int RIGHT_HEAVIER = 1;
    private static final int ALIKE = 2;
    private static final int ANSWERS = 3;

    private static final int FEWEST_COINS = 2;
    private static final int MOST_COINS = 16;
    private static final int FIRST_COINS = 8;
    private static final int MOST_CASES = 2 * MOST_COINS + 1;
    private static final int HIGHEST_LIMIT = 2;
    private static final int FIRST_LIMIT = 1;
    private static final int MOST_TOLD = 40;
    private static final int MOST_PLANNED = 8;
    private static final int MOST_ANSWERED = 30;
    private static final int GREATEST_LIE_SET = 1073741823;
    private static final int MOST_AHEAD = 20;
    private static final int MOST_SAVED = 4;
    private static final int MOST_BYTES = 100;
    private static final int HIGHEST_BYTE = 127;
    // The shortest order, such as a/b?; has five bytes.
    private static final int MOST_ORDERS = MOST_BYTES / 5;

    private static final int WEIGHING_PARTS = 3;
    private static final int VALUES = 9;
    private static final int SYNTAX_ERROR_BASE = -10;

    private static final long DIGEST_START = 3821L;
    private static final long DIGEST_FACTOR = 31L;
    private static final int DIGEST_WEIGHT_AHEAD = 5;
    private static final int DIGEST_GROUP_AHEAD = 3;

    private final State now;
    private final History history;
    private final Orders orders;

    public LyingScale() {
        now = new State();
        history = new History();
        orders = new Orders();
    }

    // ---- knowledge

    public int begin(int coins) throws IllegalArgumentException {
        if (coins < FEWEST_COINS || coins > MOST_COINS) {
            throw new IllegalArgumentException("coins is out of range");
        }
        history.save(now);
        int told = now.told.count;
        now.start(coins);
        return told;
    }

    public int setLimit(int lies) throws IllegalArgumentException {
        if (lies < 0 || lies > HIGHEST_LIMIT) {
            throw new IllegalArgumentException("lies is out of range");
        }
        history.save(now);
        now.limit = lies;
        return now.countLeft();
    }

    public int tell(int left, int right, int answer)
            throws IllegalArgumentException, IllegalStateException {
        if (!now.isWeighing(left, right) || !isAnswer(answer)) {
            throw new IllegalArgumentException("no weighing, or no answer");
        }
        if (!now.canLearn()) {
            throw new IllegalStateException("40 weighings were told");
        }
        history.save(now);
        now.learn(left, right, answer);
        return now.countLeft();
    }

    public int forget() {
        history.save(now);
        int told = now.told.count;
        now.forgetTold();
        return told;
    }

    // ---- hidden case

    public int hide(int hidden, int lies)
            throws IndexOutOfBoundsException, IllegalArgumentException {
        if (!now.isCase(hidden)) {
            throw new IndexOutOfBoundsException("no such case");
        }
        if (lies < 0 || lies > GREATEST_LIE_SET) {
            throw new IllegalArgumentException("lies is out of range");
        }
        history.save(now);
        int before = now.hidden;
        now.hideCase(hidden, lies);
        return before;
    }

    public int ask(int left, int right) throws IllegalArgumentException, IllegalStateException {
        if (!now.isWeighing(left, right)) {
            throw new IllegalArgumentException("no weighing");
        }
        if (!now.canReply()) {
            throw new IllegalStateException("the scale cannot answer");
        }
        history.save(now);
        return now.reply(left, right);
    }

    // ---- plan

    public int add(int left, int right) throws IllegalArgumentException, IllegalStateException {
        if (!now.isWeighing(left, right)) {
            throw new IllegalArgumentException("no weighing");
        }
        if (!now.canPlan()) {
            throw new IllegalStateException("the plan has 8 weighings");
        }
        history.save(now);
        int number = now.plan.count;
        now.planWeighing(left, right);
        return number;
    }

    public int removeLast() throws IllegalStateException {
        if (now.plan.count == 0) {
            throw new IllegalStateException("the plan is empty");
        }
        history.save(now);
        now.plan.dropLast();
        return now.plan.count;
    }

    // ---- values

    public int lies(int number) throws IndexOutOfBoundsException {
        if (!now.isCase(number)) {
            throw new IndexOutOfBoundsException("no such case");
        }
        return at(now.liesOf, number);
    }

    public int answer(int number, int left, int right)
            throws IndexOutOfBoundsException, IllegalArgumentException {
        if (!now.isCase(number)) {
            throw new IndexOutOfBoundsException("no such case");
        }
        if (!now.isWeighing(left, right)) {
            throw new IllegalArgumentException("no weighing");
        }
        return trueAnswer(number, left, right);
    }

    public int leftCase(int index) throws IndexOutOfBoundsException {
        int found = now.findLeft(index);
        if (found == NONE) {
            throw new IndexOutOfBoundsException("not so many cases are left");
        }
        return found;
    }

    public int weighing(int index, int what)
            throws IndexOutOfBoundsException, IllegalArgumentException {
        if (index < 0 || index >= now.told.count) {
            throw new IndexOutOfBoundsException("not so many weighings were told");
        }
        if (what < 0 || what >= WEIGHING_PARTS) {
            throw new IllegalArgumentException("what is out of range");
        }
        return now.told.part(index, what);
    }

    public int value(int what) throws IllegalArgumentException {
        if (what < 0 || what >= VALUES) {
            throw new IllegalArgumentException("what is out of range");
        }
        return now.number(what);
    }

    // ---- bounds

    public long weight(int weighings) throws IllegalArgumentException {
        if (!isAhead(weighings)) {
            throw new IllegalArgumentException("weighings is out of range");
        }
        return now.weightAhead(weighings);
    }

    public int bound() {
        long power = 1;
        for (int w = 0; w <= MOST_AHEAD; w++) {
            if (now.weightAhead(w) <= power) {
                return w;
            }
            power *= ANSWERS;
        }
        return NONE;
    }

    public long weightBehind(int left, int right, int answer, int weighings)
            throws IllegalArgumentException {
        if (!now.isWeighing(left, right) || !isAnswer(answer) || !isAhead(weighings)) {
            throw new IllegalArgumentException("no weighing, no answer, or weighings out of range");
        }
        return now.weightIfTold(left, right, answer, weighings);
    }

    public int bestGroup(int weighings) throws IllegalArgumentException {
        if (!isAhead(weighings)) {
            throw new IllegalArgumentException("weighings is out of range");
        }
        return now.findGroup(weighings);
    }

    public boolean teaches(int left, int right) throws IllegalArgumentException {
        if (!now.isWeighing(left, right)) {
            throw new IllegalArgumentException("no weighing");
        }
        return now.differs(left, right);
    }

    // ---- codes

    public int distance(int a, int b) throws IndexOutOfBoundsException {
        if (!now.isCase(a) || !now.isCase(b)) {
            throw new IndexOutOfBoundsException("no such case");
        }
        return differences(now.plan.codeWord(a), now.plan.codeWord(b));
    }

    public int leastDistance() {
        return now.leastDifferences();
    }

    public int bears() {
        int least = now.leastDifferences();
        return least == 0 ? NONE : (least - 1) / 2;
    }

    public int decode(int answers) throws IllegalArgumentException {
        if (answers < 0 || answers >= now.plan.answerRows()) {
            throw new IllegalArgumentException("answers is out of range");
        }
        return now.nearestCase(wordOf(answers));
    }

    public double share() {
        return (double) now.countLeft() / (double) now.cases();
    }

    // ---- text

    public int append(int value) throws IllegalArgumentException, IllegalStateException {
        if (value < 0 || value > HIGHEST_BYTE) {
            throw new IllegalArgumentException("value is out of range");
        }
        if (orders.length >= MOST_BYTES) {
            throw new IllegalStateException("the text has 100 bytes");
        }
        orders.write(value);
        return orders.length;
    }

    public int clearText() {
        int before = orders.length;
        orders.length = 0;
        return before;
    }

    public int carryOut() {
        int error = orders.read();
        if (error != NONE) {
            return SYNTAX_ERROR_BASE - error;
        }
        history.save(now);
        for (int i = 0; i < orders.count; i++) {
            if (!now.obey(at(orders.lefts, i), at(orders.rights, i), at(orders.deeds, i))) {
                return i;
            }
        }
        return orders.count;
    }

    // ---- state

    public int undo() throws IllegalStateException {
        if (history.count == 0) {
            throw new IllegalStateException("there is no saved state");
        }
        history.restore(now);
        return history.count;
    }

    public long digest() {
        long hash = mix(DIGEST_START, orders.length);
        for (int what = 0; what < VALUES; what++) {
            hash = mix(hash, now.number(what));
        }
        for (int i = 0; i < now.told.count; i++) {
            for (int what = 0; what < WEIGHING_PARTS; what++) {
                hash = mix(hash, now.told.part(i, what));
            }
        }
        for (int number = 0; number < now.cases(); number++) {
            hash = mix(hash, at(now.liesOf, number));
        }
        for (int i = 0; i < now.plan.count; i++) {
            hash = mix(hash, at(now.plan.lefts, i));
            hash = mix(hash, at(now.plan.rights, i));
        }
        hash = mix(hash, now.leastDifferences());
        hash = mix(hash, bound());
        hash = mix(hash, now.weightAhead(DIGEST_WEIGHT_AHEAD));
        hash = mix(hash, now.findGroup(DIGEST_GROUP_AHEAD));
        return mix(hash, history.count);
    }

    private static long mix(long hash, long next) {
        return DIGEST_FACTOR * hash + next;
    }

    private static boolean isAnswer(int answer) {
        return answer >= 0 && answer < ANSWERS;
    }

    private static boolean isAhead(int weighings) {
        return weighings >= 0 && weighings <= MOST_AHEAD;
    }

    private static int at(int[] row, int index) {
        return index >= 0 && index < row.length ? row[index] : 0;
    }

    private static void put(int[] row, int index, int what) {
        if (index >= 0 && index < row.length) {
            row[index] = what;
        }
    }

    private static void copyRow(int[] from, int[] to) {
        System.arraycopy(from, 0, to, 0, Math.min(from.length, to.length));
    }

    private static int coinBit(int number) {
        return number <= 0 ? 0 : 1 << ((number - 1) / 2);
    }

    private static int trueAnswer(int number, int left, int right) {
        int coin = coinBit(number);
        boolean heavier = (number & 1) == 1;
        if ((left & coin) != 0) {
            return heavier ? LEFT_HEAVIER : RIGHT_HEAVIER;
        }
        if ((right & coin) != 0) {
            return heavier ? RIGHT_HEAVIER : LEFT_HEAVIER;
        }
        return ALIKE;
    }

    private static long volume(int weighings, int lies) {
        long choices = 1;
        long sum = 1;
        int most = Math.min(weighings, lies);
        for (int i = 1; i <= most; i++) {
            choices = choices * (weighings - i + 1) / i;
            sum += choices << i;
        }
        return sum;
    }

    // A code word keeps two bits for each weighing, so that two words are compared at once.
    private static int differences(int wordA, int wordB) {
        int changed = wordA ^ wordB;
        return Integer.bitCount((changed | (changed >> 1)) & 0x5555);
    }

    private static int wordOf(int answers) {
        int word = 0;
        int rest = answers;
        for (int n = 0; n < MOST_PLANNED; n++) {
            word |= (rest % ANSWERS) << (2 * n);
            rest /= ANSWERS;
        }
        return word;
    }

    /** Weighings in their order, those that were told or those of the plan. */
    private static final class Weighings {
        private final int[] lefts;
        private final int[] rights;
        private final int[] answers;
        private int count;

        Weighings(int most) {
            int room = Math.max(most, 0);
            lefts = new int[room];
            rights = new int[room];
            answers = new int[room];
        }

        void copyFrom(Weighings other) {
            copyRow(other.lefts, lefts);
            copyRow(other.rights, rights);
            copyRow(other.answers, answers);
            count = other.count;
        }

        void write(int left, int right, int answer) {
            if (count < lefts.length) {
                put(lefts, count, left);
                put(rights, count, right);
                put(answers, count, answer);
                count++;
            }
        }

        void dropLast() {
            if (count > 0) {
                count--;
            }
        }

        int part(int index, int what) {
            switch (what) {
                case 0:
                    return at(lefts, index);
                case 1:
                    return at(rights, index);
                default:
                    return at(answers, index);
            }
        }

        int codeWord(int number) {
            int word = 0;
            for (int n = 0; n < count; n++) {
                word |= trueAnswer(number, at(lefts, n), at(rights, n)) << (2 * n);
            }
            return word;
        }

        int answerRows() {
            int rows = 1;
            for (int n = 0; n < count; n++) {
                rows *= ANSWERS;
            }
            return rows;
        }
    }

    /** Everything that undo brings back. */
    private static final class State {
        private final Weighings told;
        private final Weighings plan;
        private final int[] liesOf;
        private final int[] words;
        private int coins;
        private int limit;
        private int hidden;
        private int lieSet;
        private int answered;

        State() {
            told = new Weighings(MOST_TOLD);
            plan = new Weighings(MOST_PLANNED);
            liesOf = new int[MOST_CASES];
            words = new int[MOST_CASES];
            start(FIRST_COINS);
        }

        void start(int withCoins) {
            coins = withCoins;
            limit = FIRST_LIMIT;
            plan.count = 0;
            hideCase(NONE, 0);
            forgetTold();
        }

        // The code words are worked out anew whenever they are used, so they are not copied.
        void copyFrom(State other) {
            told.copyFrom(other.told);
            plan.copyFrom(other.plan);
            copyRow(other.liesOf, liesOf);
            coins = other.coins;
            limit = other.limit;
            hidden = other.hidden;
            lieSet = other.lieSet;
            answered = other.answered;
        }

        int cases() {
            return 2 * coins + 1;
        }

        boolean isCase(int number) {
            return number >= 0 && number < cases();
        }

        boolean isWeighing(int left, int right) {
            return left != 0
                    && (left & right) == 0
                    && ((left | right) >>> coins) == 0
                    && Integer.bitCount(left) == Integer.bitCount(right);
        }

        boolean canLearn() {
            return told.count < MOST_TOLD;
        }

        void learn(int left, int right, int answer) {
            told.write(left, right, answer);
            for (int number = 0; number < cases(); number++) {
                put(liesOf, number, liesIfTold(number, left, right, answer));
            }
        }

        int liesIfTold(int number, int left, int right, int answer) {
            int before = at(liesOf, number);
            return trueAnswer(number, left, right) == answer ? before : before + 1;
        }

        void forgetTold() {
            told.count = 0;
            for (int number = 0; number < MOST_CASES; number++) {
                put(liesOf, number, 0);
            }
        }

        void hideCase(int number, int lies) {
            hidden = number;
            lieSet = lies;
            answered = 0;
        }

        boolean canReply() {
            return hidden != NONE && canLearn() && answered < MOST_ANSWERED;
        }

        int reply(int left, int right) {
            int reply = trueAnswer(hidden, left, right);
            if (((lieSet >>> answered) & 1) == 1) {
                reply = reply == ALIKE ? LEFT_HEAVIER : reply + 1;
            }
            answered++;
            learn(left, right, reply);
            return reply;
        }

        boolean canPlan() {
            return plan.count < MOST_PLANNED;
        }

        void planWeighing(int left, int right) {
            plan.write(left, right, ALIKE);
        }

        /** Carries out one order; answers whether it could be carried out. */
        boolean obey(int left, int right, int deed) {
            if (!isWeighing(left, right) || !canDo(deed)) {
                return false;
            }
            switch (deed) {
                case Orders.LET_ANSWER:
                    reply(left, right);
                    break;
                case Orders.PLAN:
                    planWeighing(left, right);
                    break;
                default:
                    learn(left, right, deed);
                    break;
            }
            return true;
        }

        private boolean canDo(int deed) {
            switch (deed) {
                case Orders.LET_ANSWER:
                    return canReply();
                case Orders.PLAN:
                    return canPlan();
                default:
                    return canLearn();
            }
        }

        boolean isLeft(int number) {
            return at(liesOf, number) <= limit;
        }

        int countLeft() {
            int count = 0;
            for (int number = 0; number < cases(); number++) {
                if (isLeft(number)) {
                    count++;
                }
            }
            return count;
        }

        int findLeft(int index) {
            int seen = 0;
            for (int number = 0; number < cases(); number++) {
                if (isLeft(number)) {
                    if (seen == index) {
                        return number;
                    }
                    seen++;
                }
            }
            return NONE;
        }

        int falseCoins() {
            int set = 0;
            for (int number = 0; number < cases(); number++) {
                if (isLeft(number)) {
                    set |= coinBit(number);
                }
            }
            return set;
        }

        int number(int what) {
            switch (what) {
                case 0:
                    return coins;
                case 1:
                    return limit;
                case 2:
                    return told.count;
                case 3:
                    return countLeft();
                case 4:
                    return plan.count;
                case 5:
                    return hidden;
                case 6:
                    return answered;
                case 7:
                    return falseCoins();
                default:
                    return isLeft(0) ? 1 : 0;
            }
        }

        long weightAhead(int weighings) {
            long sum = 0;
            for (int number = 0; number < cases(); number++) {
                sum += volumeLeft(at(liesOf, number), weighings);
            }
            return sum;
        }

        long weightIfTold(int left, int right, int answer, int weighings) {
            long sum = 0;
            for (int number = 0; number < cases(); number++) {
                sum += volumeLeft(liesIfTold(number, left, right, answer), weighings);
            }
            return sum;
        }

        private long volumeLeft(int lies, int weighings) {
            return lies > limit ? 0 : volume(weighings, limit - lies);
        }

        long badness(int group, int weighings) {
            int left = (1 << group) - 1;
            int right = left << group;
            long worst = 0;
            for (int answer = 0; answer < ANSWERS; answer++) {
                worst = Math.max(worst, weightIfTold(left, right, answer, weighings));
            }
            return worst;
        }

        int findGroup(int weighings) {
            int best = 1;
            long least = badness(1, weighings);
            for (int group = 2; group <= coins / 2; group++) {
                long next = badness(group, weighings);
                if (next < least) {
                    least = next;
                    best = group;
                }
            }
            return best;
        }

        boolean differs(int left, int right) {
            int first = NONE;
            for (int number = 0; number < cases(); number++) {
                if (isLeft(number)) {
                    int answer = trueAnswer(number, left, right);
                    if (first != NONE && answer != first) {
                        return true;
                    }
                    first = answer;
                }
            }
            return false;
        }

        int leastDifferences() {
            int least = MOST_PLANNED;
            for (int a = 0; a < cases(); a++) {
                put(words, a, plan.codeWord(a));
                for (int b = 0; b < a; b++) {
                    least = Math.min(least, differences(at(words, a), at(words, b)));
                }
            }
            return least;
        }

        int nearestCase(int word) {
            int nearest = NONE;
            int fewest = MOST_PLANNED + 1;
            for (int number = 0; number < cases(); number++) {
                int apart = differences(plan.codeWord(number), word);
                if (apart < fewest) {
                    fewest = apart;
                    nearest = number;
                } else if (apart == fewest) {
                    nearest = NONE;
                }
            }
            return nearest;
        }
    }

    /** The saved states, the oldest first; all objects are made at once and used again. */
    private static final class History {
        private final State[] states;
        private int count;

        History() {
            states = new State[MOST_SAVED];
            for (int i = 0; i < states.length; i++) {
                states[i] = new State();
            }
        }

        void save(State now) {
            if (count >= states.length) {
                dropOldest();
            }
            State place = stateAt(count);
            if (place != null) {
                place.copyFrom(now);
                count++;
            }
        }

        void restore(State now) {
            State last = stateAt(count - 1);
            if (last != null) {
                now.copyFrom(last);
                count--;
            }
        }

        private State stateAt(int index) {
            return index >= 0 && index < states.length ? states[index] : null;
        }

        // The object of the dropped state goes to the end, to take the next state.
        private void dropOldest() {
            State oldest = stateAt(0);
            int last = states.length - 1;
            for (int i = 0; i < last; i++) {
                states[i] = states[i + 1];
            }
            if (last >= 0) {
                states[last] = oldest;
                count = last;
            }
        }
    }

    /** The text, and the orders that were read from it last. */
    private static final class Orders {
        // A deed below these is the answer that is told.
        private static final int LET_ANSWER = 3;
        private static final int PLAN = 4;

        private static final int AT_ORDER = 0;
        private static final int IN_LEFT = 1;
        private static final int AT_RIGHT = 2;
        private static final int IN_RIGHT = 3;
        private static final int AT_ANSWER = 4;
        private static final int AT_END = 5;

        private final int[] bytes;
        private final int[] lefts;
        private final int[] rights;
        private final int[] deeds;
        private int length;
        private int count;
        private int place;
        private int left;
        private int right;

        Orders() {
            bytes = new int[MOST_BYTES];
            lefts = new int[MOST_ORDERS];
            rights = new int[MOST_ORDERS];
            deeds = new int[MOST_ORDERS];
        }

        void write(int value) {
            if (length < bytes.length) {
                put(bytes, length, value);
                length++;
            }
        }

        /** Answers the syntax error position, or NONE. */
        int read() {
            count = 0;
            place = AT_ORDER;
            for (int i = 0; i < length; i++) {
                if (!take(at(bytes, i))) {
                    return i;
                }
            }
            return place == AT_ORDER ? NONE : length;
        }

        private boolean take(int sign) {
            switch (place) {
                case AT_ORDER:
                    left = 0;
                    right = 0;
                    return takeLeft(sign);
                case IN_LEFT:
                    return sign == '/' ? goTo(AT_RIGHT) : takeLeft(sign);
                case AT_RIGHT:
                    return takeRight(sign);
                case IN_RIGHT:
                    return takeDeed(sign) || takeRight(sign);
                case AT_ANSWER:
                    return takeAnswer(sign);
                default:
                    return sign == ';' && close();
            }
        }

        private boolean goTo(int next) {
            place = next;
            return true;
        }

        // A letter that stands in the order already counts as no coin.
        private int coinOf(int sign) {
            if (sign < 'a' || sign > 'p') {
                return 0;
            }
            return (1 << (sign - 'a')) & ~(left | right);
        }

        private boolean takeLeft(int sign) {
            int coin = coinOf(sign);
            left |= coin;
            return coin != 0 && goTo(IN_LEFT);
        }

        private boolean takeRight(int sign) {
            int coin = coinOf(sign);
            right |= coin;
            return coin != 0 && goTo(IN_RIGHT);
        }

        private boolean takeDeed(int sign) {
            switch (sign) {
                case '=':
                    return goTo(AT_ANSWER);
                case '?':
                    return decide(LET_ANSWER);
                case '+':
                    return decide(PLAN);
                default:
                    return false;
            }
        }

        private boolean takeAnswer(int sign) {
            switch (sign) {
                case 'l':
                    return decide(LEFT_HEAVIER);
                case 'r':
                    return decide(RIGHT_HEAVIER);
                case 'e':
                    return decide(ALIKE);
                default:
                    return false;
            }
        }

        private boolean decide(int deed) {
            put(lefts, count, left);
            put(rights, count, right);
            put(deeds, count, deed);
            return goTo(AT_END);
        }

        private boolean close() {
            count++;
            return goTo(AT_ORDER);
        }
    }
}
