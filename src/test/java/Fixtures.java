import java.util.ArrayList;
import java.util.List;
import java.util.function.Consumer;
import java.util.function.Supplier;

/** What several tests need: scales that are ready, ranges of arguments, and pairs of sets. */
final class Fixtures {
    static final String ARGUMENT = "IllegalArgumentException";
    static final String STATE = "IllegalStateException";
    static final String INDEX = "IndexOutOfBoundsException";
    static final int LEAST = Integer.MIN_VALUE;
    static final int GREATEST = Integer.MAX_VALUE;

    /** A call with one number that has a range. */
    interface Ranged {
        Object call(LyingScale x, int number);
    }

    /** A call with the two sets of a weighing. */
    interface Sided {
        Object call(LyingScale x, int left, int right);
    }

    private Fixtures() {
    }

    static LyingScale coins(int coins) {
        LyingScale x = new LyingScale();
        x.begin(coins);
        return x;
    }

    static LyingScale limited(int coins, int limit) {
        LyingScale x = coins(coins);
        x.setLimit(limit);
        return x;
    }

    static LyingScale write(LyingScale x, String text) {
        for (int i = 0; i < text.length(); i++) {
            x.append(text.charAt(i));
        }
        return x;
    }

    static int carried(LyingScale x, String text) {
        x.clearText();
        return write(x, text).carryOut();
    }

    /** A scale on which everything differs from a new one, and nothing is full. */
    static LyingScale busy() {
        LyingScale x = coins(5);
        x.setLimit(2);
        x.hide(7, 0b101101);
        x.add(1, 2);
        x.add(3, 20);
        x.ask(8, 1);
        x.tell(3, 12, 0);
        x.tell(16, 1, 2);
        return write(x, "ab/cd?;e/a+;d/e=l;a/b");
    }

    static LyingScale told(int times) {
        LyingScale x = new LyingScale();
        for (int i = 0; i < times; i++) {
            x.tell(1, 2, 1);
        }
        return x;
    }

    static LyingScale asked(int times) {
        LyingScale x = new LyingScale();
        x.hide(3, 0);
        for (int i = 0; i < times; i++) {
            x.ask(1, 2);
        }
        return x;
    }

    static LyingScale planned(int times) {
        LyingScale x = new LyingScale();
        for (int i = 0; i < times; i++) {
            x.add(1 << i % 7, 128);
        }
        return x;
    }

    static LyingScale written(int bytes) {
        return write(new LyingScale(), "a/b+;".repeat(20).substring(0, bytes));
    }

    /** All numbers from low to high are taken, the others are refused and change nothing. */
    static void range(Check check, String what, int low, int high, String exception,
            Supplier<LyingScale> ready, Ranged ranged) {
        for (int number : new int[] {low - 1, high + 1, low - 2, high + 2, LEAST, GREATEST}) {
            LyingScale x = ready.get();
            check.refused(x, what + " of " + number, exception, () -> ranged.call(x, number));
        }
        for (int i = 0; i <= Math.min(high - low, 50); i++) {
            taken(check, what, low + i, ready, ranged);
            taken(check, what, high - i, ready, ranged);
        }
    }

    private static void taken(Check check, String what, int number, Supplier<LyingScale> ready,
            Ranged ranged) {
        LyingScale x = ready.get();
        String outcome = Check.outcome(() -> ranged.call(x, number));
        check.same(what + " of " + number + " is taken", false, outcome.startsWith("throws"));
    }

    /** What is wrong with two sets as a weighing of so many coins; empty if nothing is. */
    static String wrong(int coins, int left, int right) {
        if (left < 0 || right < 0 || left >> coins != 0 || right >> coins != 0) {
            return "a coin that there is not";
        }
        int lefts = 0;
        int rights = 0;
        int common = 0;
        for (int coin = 0; coin < coins; coin++) {
            int onLeft = left >> coin & 1;
            int onRight = right >> coin & 1;
            lefts += onLeft;
            rights += onRight;
            common += onLeft * onRight;
        }
        if (lefts == 0 || rights == 0) {
            return "empty";
        }
        if (lefts != rights) {
            return "different numbers of coins";
        }
        return common == 0 ? "" : "a coin in common";
    }

    /** Of all pairs of sets only the weighings are taken, the others are refused. */
    static void weighings(Check check, String what, Consumer<LyingScale> ready, Sided sided) {
        for (int coins = 2; coins <= 4; coins++) {
            for (int left = -1; left < 2 << coins; left++) {
                for (int right = -1; right < 2 << coins; right++) {
                    pair(check, what, coins, left, right, ready, sided);
                }
            }
        }
        int[] sets = {
            0, 1, 2, 3, 5, 10, 255, 65280, 32768, 65535, 65536, 65537, 1 << 30, LEAST, GREATEST, -1,
            -65536, LEAST + 1,
        };
        for (int coins = 5; coins <= 16; coins++) {
            for (int left : sets) {
                for (int right : sets) {
                    pair(check, what, coins, left, right, ready, sided);
                }
            }
            pair(check, what, coins, 1 << coins - 1, 1, ready, sided);
            pair(check, what, coins, 1, 1 << coins - 1, ready, sided);
            pair(check, what, coins, 1 << coins, 1, ready, sided);
            pair(check, what, coins, 1, 1 << coins, ready, sided);
        }
    }

    private static void pair(Check check, String what, int coins, int left, int right,
            Consumer<LyingScale> ready, Sided sided) {
        LyingScale x = coins(coins);
        ready.accept(x);
        String wrong = wrong(coins, left, right);
        String name = what + "(" + left + ", " + right + ") with " + coins + " coins";
        if (wrong.isEmpty()) {
            String outcome = Check.outcome(() -> sided.call(x, left, right));
            check.same(name + " is taken", false, outcome.startsWith("throws"));
        } else {
            check.refused(x, name + ", " + wrong, ARGUMENT, () -> sided.call(x, left, right));
        }
    }

    /** All that the calls tell of a scale that change nothing. */
    static String seen(LyingScale x) {
        int told = x.value(2);
        int cases = 2 * x.value(0) + 1;
        StringBuilder seen = new StringBuilder();
        seen.append(x.digest()).append(' ').append(x.share()).append(' ').append(x.bears());
        for (int what = 0; what <= 8; what++) {
            seen.append(", ").append(x.value(what));
        }
        for (int i = 0; i < told; i++) {
            for (int what = 0; what <= 2; what++) {
                seen.append("; ").append(x.weighing(i, what));
            }
        }
        for (int number = 0; number < cases; number++) {
            seen.append(" case ").append(x.lies(number));
            seen.append(' ').append(x.distance(number, 0));
        }
        return seen.toString();
    }

    /**
     * All that can be told of a scale: what is seen, what its text does, how it goes on to answer,
     * and the same for each of its saved states. Each is looked at on a scale of its own.
     */
    static List<String> everything(Supplier<LyingScale> ready) {
        List<String> all = new ArrayList<>();
        for (int undone = 0; undone <= 5; undone++) {
            LyingScale x = ready.get();
            StringBuilder row = new StringBuilder("undone " + undone + ": ");
            for (int i = 0; i < undone; i++) {
                row.append(Check.outcome(x::undo)).append(' ');
            }
            row.append(seen(x)).append(" text ").append(x.carryOut()).append(' ').append(seen(x));
            all.add(row.append(" answers ").append(answers(x)).toString());
        }
        return all;
    }

    /** How the scale answers until it refuses. */
    static String answers(LyingScale x) {
        StringBuilder row = new StringBuilder();
        for (int i = 0; i < 31; i++) {
            row.append(Check.outcome(() -> x.ask(8, 1)).replace("throws.IllegalState", "-"));
        }
        return row.toString();
    }

    /** How many states are saved; they are gone then. */
    static int saved(LyingScale x) {
        int count = 0;
        while (!Check.outcome(x::undo).startsWith("throws")) {
            count++;
        }
        return count;
    }
}
