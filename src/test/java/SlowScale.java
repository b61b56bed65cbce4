import java.util.ArrayDeque;
import java.util.ArrayList;
import java.util.Deque;
import java.util.List;
import java.util.regex.Pattern;

/**
 * The document once more, written in another way and without care for room: coins are put on a real
 * scale, lies are counted anew from the weighings, code words are texts, and the syntax is a pattern.
 */
final class SlowScale {
    private static final Pattern ORDER = Pattern.compile("[a-p]+/[a-p]+(=[lre]|\\?|\\+)");
    private static final Pattern BEGUN =
            Pattern.compile("([a-p]+(/([a-p]+(=[lre]?|\\?|\\+)?)?)?)?");

    private record Weighed(int left, int right, int answer) {
    }

    private record Saved(int coins, int limit, List<Weighed> told, List<Weighed> plan,
            int hidden, int lieSet, int answered) {
    }

    private int coins = 8;
    private int limit = 1;
    private List<Weighed> told = new ArrayList<>();
    private List<Weighed> plan = new ArrayList<>();
    private int hidden = -1;
    private int lieSet;
    private int answered;
    private final Deque<Saved> history = new ArrayDeque<>();
    private String text = "";

    private void save() {
        history.addLast(new Saved(coins, limit, List.copyOf(told), List.copyOf(plan), hidden,
                lieSet, answered));
        if (history.size() > 4) {
            history.removeFirst();
        }
    }

    int undo() {
        if (history.isEmpty()) {
            throw new IllegalStateException();
        }
        Saved last = history.removeLast();
        coins = last.coins();
        limit = last.limit();
        told = new ArrayList<>(last.told());
        plan = new ArrayList<>(last.plan());
        hidden = last.hidden();
        lieSet = last.lieSet();
        answered = last.answered();
        return history.size();
    }

    private static void argument(boolean holds) {
        if (!holds) {
            throw new IllegalArgumentException();
        }
    }

    private static void state(boolean holds) {
        if (!holds) {
            throw new IllegalStateException();
        }
    }

    private void aCase(int number) {
        if (number < 0 || number > 2 * coins) {
            throw new IndexOutOfBoundsException();
        }
    }

    private static void within(int low, int number, int high) {
        argument(low <= number && number <= high);
    }

    private void aWeighing(int left, int right) {
        argument(left > 0 && right > 0 && left < Math.pow(2, coins) && right < Math.pow(2, coins));
        int lefts = 0;
        int rights = 0;
        for (int coin = 0; coin < coins; coin++) {
            boolean isLeft = left / (1 << coin) % 2 == 1;
            boolean isRight = right / (1 << coin) % 2 == 1;
            argument(!(isLeft && isRight));
            lefts += isLeft ? 1 : 0;
            rights += isRight ? 1 : 0;
        }
        argument(lefts == rights);
    }

    private int truth(int number, int left, int right) {
        int balance = 0;
        for (int coin = 0; coin < coins; coin++) {
            int mass = number == 2 * coin + 1 ? 11 : number == 2 * coin + 2 ? 9 : 10;
            balance += mass * (left / (1 << coin) % 2) - mass * (right / (1 << coin) % 2);
        }
        return balance > 0 ? 0 : balance < 0 ? 1 : 2;
    }

    private int liesIn(int number, List<Weighed> rows) {
        int count = 0;
        for (Weighed w : rows) {
            count += truth(number, w.left(), w.right()) == w.answer() ? 0 : 1;
        }
        return count;
    }

    private List<Integer> left() {
        List<Integer> cases = new ArrayList<>();
        for (int number = 0; number <= 2 * coins; number++) {
            if (liesIn(number, told) <= limit) {
                cases.add(number);
            }
        }
        return cases;
    }

    private static long choose(int n, int k) {
        return k == 0 ? 1 : n == 0 ? 0 : choose(n - 1, k - 1) + choose(n - 1, k);
    }

    private long weightOf(int weighings, List<Weighed> rows) {
        long sum = 0;
        for (int number = 0; number <= 2 * coins; number++) {
            int e = limit - liesIn(number, rows);
            for (int i = 0; i <= Math.min(weighings, e); i++) {
                sum += choose(weighings, i) * (1L << i);
            }
        }
        return sum;
    }

    int begin(int withCoins) {
        within(2, withCoins, 16);
        save();
        int before = told.size();
        coins = withCoins;
        limit = 1;
        told = new ArrayList<>();
        plan = new ArrayList<>();
        hidden = -1;
        answered = 0;
        return before;
    }

    int setLimit(int lies) {
        within(0, lies, 2);
        save();
        limit = lies;
        return left().size();
    }

    private void mayTell(int left, int right, int answer) {
        aWeighing(left, right);
        within(0, answer, 2);
        state(told.size() < 40);
    }

    int tell(int left, int right, int answer) {
        mayTell(left, right, answer);
        save();
        told.add(new Weighed(left, right, answer));
        return left().size();
    }

    int forget() {
        save();
        int before = told.size();
        told = new ArrayList<>();
        return before;
    }

    int hide(int number, int lies) {
        aCase(number);
        within(0, lies, 1073741823);
        save();
        int before = hidden;
        hidden = number;
        lieSet = lies;
        answered = 0;
        return before;
    }

    private void mayAsk(int left, int right) {
        aWeighing(left, right);
        state(hidden != -1);
        state(told.size() < 40);
        state(answered < 30);
    }

    private int askNow(int left, int right) {
        int lie = lieSet / (1 << answered) % 2;
        int answer = (truth(hidden, left, right) + lie) % 3;
        answered++;
        told.add(new Weighed(left, right, answer));
        return answer;
    }

    int ask(int left, int right) {
        mayAsk(left, right);
        save();
        return askNow(left, right);
    }

    private void mayAdd(int left, int right) {
        aWeighing(left, right);
        state(plan.size() < 8);
    }

    int add(int left, int right) {
        mayAdd(left, right);
        save();
        plan.add(new Weighed(left, right, 0));
        return plan.size() - 1;
    }

    int removeLast() {
        state(!plan.isEmpty());
        save();
        plan.remove(plan.size() - 1);
        return plan.size();
    }

    int lies(int number) {
        aCase(number);
        return liesIn(number, told);
    }

    int answer(int number, int left, int right) {
        aCase(number);
        aWeighing(left, right);
        return truth(number, left, right);
    }

    int leftCase(int index) {
        if (index < 0 || index >= left().size()) {
            throw new IndexOutOfBoundsException();
        }
        return left().get(index);
    }

    int weighing(int index, int what) {
        if (index < 0 || index >= told.size()) {
            throw new IndexOutOfBoundsException();
        }
        within(0, what, 2);
        Weighed w = told.get(index);
        return what == 0 ? w.left() : what == 1 ? w.right() : w.answer();
    }

    int value(int what) {
        within(0, what, 8);
        int coinSet = 0;
        for (int number : left()) {
            if (number > 0) {
                coinSet |= 1 << (number + 1) / 2 - 1;
            }
        }
        int[] all = {coins, limit, told.size(), left().size(), plan.size(), hidden, answered,
            coinSet, left().contains(0) ? 1 : 0};
        return all[what];
    }

    long weight(int weighings) {
        within(0, weighings, 20);
        return weightOf(weighings, told);
    }

    int bound() {
        for (int w = 0; w <= 20; w++) {
            if (weight(w) <= Math.round(Math.pow(3, w))) {
                return w;
            }
        }
        return -1;
    }

    long weightBehind(int left, int right, int answer, int weighings) {
        aWeighing(left, right);
        within(0, answer, 2);
        within(0, weighings, 20);
        List<Weighed> rows = new ArrayList<>(told);
        rows.add(new Weighed(left, right, answer));
        return weightOf(weighings, rows);
    }

    int bestGroup(int weighings) {
        within(0, weighings, 20);
        int best = 0;
        long least = Long.MAX_VALUE;
        for (int g = 1; 2 * g <= coins; g++) {
            int left = (1 << g) - 1;
            int right = (1 << 2 * g) - 1 - left;
            long bad = 0;
            for (int answer = 0; answer < 3; answer++) {
                bad = Math.max(bad, weightBehind(left, right, answer, weighings));
            }
            if (bad < least) {
                least = bad;
                best = g;
            }
        }
        return best;
    }

    boolean teaches(int left, int right) {
        aWeighing(left, right);
        return left().stream().map(number -> truth(number, left, right)).distinct().count() > 1;
    }

    private String word(int number) {
        StringBuilder word = new StringBuilder();
        for (Weighed w : plan) {
            word.append(truth(number, w.left(), w.right()));
        }
        return word.toString();
    }

    private static int apart(String a, String b) {
        int count = 0;
        for (int i = 0; i < a.length(); i++) {
            count += a.charAt(i) == b.charAt(i) ? 0 : 1;
        }
        return count;
    }

    int distance(int a, int b) {
        aCase(a);
        aCase(b);
        return apart(word(a), word(b));
    }

    int leastDistance() {
        List<String> words = new ArrayList<>();
        for (int number = 0; number <= 2 * coins; number++) {
            words.add(word(number));
        }
        int least = 99;
        for (int a = 0; a < words.size(); a++) {
            for (int b = a + 1; b < words.size(); b++) {
                least = Math.min(least, apart(words.get(a), words.get(b)));
            }
        }
        return least;
    }

    int bears() {
        int bears = -1;
        for (int e = 0; e <= 8; e++) {
            if (leastDistance() >= 2 * e + 1) {
                bears = e;
            }
        }
        return bears;
    }

    int decode(int answers) {
        argument(answers >= 0 && answers < Math.round(Math.pow(3, plan.size())));
        StringBuilder row = new StringBuilder();
        int rest = answers;
        for (int i = 0; i < plan.size(); i++) {
            row.append(rest % 3);
            rest /= 3;
        }
        for (int most = 0; most <= plan.size(); most++) {
            List<Integer> near = new ArrayList<>();
            for (int number = 0; number <= 2 * coins; number++) {
                if (apart(word(number), row.toString()) == most) {
                    near.add(number);
                }
            }
            if (!near.isEmpty()) {
                return near.size() == 1 ? near.get(0) : -1;
            }
        }
        throw new AssertionError();
    }

    double share() {
        return left().size() / (2.0 * coins + 1.0);
    }

    int append(int value) {
        within(0, value, 127);
        state(text.length() < 100);
        text += (char) value;
        return text.length();
    }

    int clearText() {
        int before = text.length();
        text = "";
        return before;
    }

    private static boolean lettersOnce(String order) {
        String letters = order.replaceAll("=.*", "").replaceAll("[^a-p]", "");
        return letters.chars().distinct().count() == letters.length();
    }

    private static boolean canStand(String start) {
        String[] pieces = start.split(";", -1);
        for (int i = 0; i < pieces.length; i++) {
            Pattern form = i < pieces.length - 1 ? ORDER : BEGUN;
            if (!form.matcher(pieces[i]).matches() || !lettersOnce(pieces[i])) {
                return false;
            }
        }
        return true;
    }

    private static int coinSet(String letters) {
        int set = 0;
        for (char letter : letters.toCharArray()) {
            set += 1 << letter - 'a';
        }
        return set;
    }

    int carryOut() {
        for (int i = 0; i < text.length(); i++) {
            if (!canStand(text.substring(0, i + 1))) {
                return -10 - i;
            }
        }
        if (!text.isEmpty() && !text.endsWith(";")) {
            return -10 - text.length();
        }
        save();
        int done = 0;
        try {
            for (String order : text.split(";")) {
                if (!order.isEmpty()) {
                    carryOutOne(order);
                    done++;
                }
            }
        } catch (IllegalArgumentException | IllegalStateException e) {
            return done;
        }
        return done;
    }

    private void carryOutOne(String order) {
        String[] sides = order.replaceAll("[=?+].*", "").split("/");
        int left = coinSet(sides[0]);
        int right = coinSet(sides[1]);
        if (order.endsWith("?")) {
            mayAsk(left, right);
            askNow(left, right);
        } else if (order.endsWith("+")) {
            mayAdd(left, right);
            plan.add(new Weighed(left, right, 0));
        } else {
            int answer = "lre".indexOf(order.charAt(order.length() - 1));
            mayTell(left, right, answer);
            told.add(new Weighed(left, right, answer));
        }
    }

    long digest() {
        List<Long> row = new ArrayList<>();
        row.add((long) text.length());
        for (int what = 0; what <= 8; what++) {
            row.add((long) value(what));
        }
        for (Weighed w : told) {
            row.addAll(List.of((long) w.left(), (long) w.right(), (long) w.answer()));
        }
        for (int number = 0; number <= 2 * coins; number++) {
            row.add((long) lies(number));
        }
        for (Weighed w : plan) {
            row.addAll(List.of((long) w.left(), (long) w.right()));
        }
        row.addAll(List.of((long) leastDistance(), (long) bound(), weight(5),
                (long) bestGroup(3), (long) history.size()));
        long h = 3821;
        for (long v : row) {
            h = 31 * h + v;
        }
        return h;
    }
}
