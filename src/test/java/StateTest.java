import java.util.ArrayList;
import java.util.List;

/** Each sentence of the promises 28 and 29 by itself: undo and the hash of the state. */
public final class StateTest {
    private static final Check check = new Check("StateTest");
    private static Sentences document;

    private StateTest() {
    }

    public static void main(String[] args) {
        document = new Sentences(check, args, "Promise 28", "Promise 29");
        undo();
        digest();
        document.close();
    }

    private static void says(int promise, String start, Runnable test) {
        document.says("Promise " + promise, start, test);
    }

    private static void undo() {
        says(28, "Restores the most recently saved state and removes it", () -> {
            LyingScale x = new LyingScale();
            List<String> states = new ArrayList<>();
            x.hide(7, 0b1010);
            x.begin(9);
            for (int i = 0; i < 4; i++) {
                states.add(withoutDigest(x));
                change(x, i);
            }
            for (int i = 3; i >= 0; i--) {
                x.undo();
                check.same("state " + i, states.get(i), withoutDigest(x));
            }
            check.refused(x, "all are removed", Fixtures.STATE, x::undo);
            eachPart();
            twoWays();
            writtenOver();
        });
        says(28, "Returns the number of saved states that remain.", () -> {
            for (int calls = 1; calls <= 8; calls++) {
                LyingScale x = Fixtures.planned(calls);
                for (int left = Math.min(calls, 4) - 1; left >= 0; left--) {
                    check.due("undo of " + calls + " calls", left, x::undo);
                }
                check.due("none remains", "throws." + Fixtures.STATE, x::undo);
            }
        });
        says(28, "Throws `IllegalStateException` if there is no saved state", () -> {
            LyingScale x = new LyingScale();
            check.refused(x, "new", Fixtures.STATE, x::undo);
            x.add(1, 2);
            check.due("the only one", 0, x::undo);
            check.refused(x, "undone already", Fixtures.STATE, x::undo);
            LyingScale y = Fixtures.told(40);
            for (int i = 0; i < 4; i++) {
                y.undo();
            }
            check.refused(y, "the fifth", Fixtures.STATE, y::undo);
            check.same("36 stay", 36, y.value(2));
            LyingScale z = Fixtures.written(100);
            check.refused(z, "a text alone", Fixtures.STATE, z::undo);
        });
    }

    private static String withoutDigest(LyingScale x) {
        return Fixtures.seen(x).replaceFirst("-?\\d+", "");
    }

    private static void change(LyingScale x, int kind) {
        switch (kind) {
            case 0 -> x.tell(1, 2, 0);
            case 1 -> x.add(12, 3);
            case 2 -> x.hide(5, 1);
            default -> x.ask(4, 1);
        }
    }

    // Each part of the state is changed by another call, and comes back.
    private static void eachPart() {
        LyingScale x = Fixtures.busy();
        x.begin(16);
        x.undo();
        check.same("the coins", 5, x.value(0));
        check.same("the limit", 2, x.value(1));
        check.same("the weighings", 3, x.value(2));
        check.same("the first one", 8, x.weighing(0, 0));
        check.same("the last answer", 2, x.weighing(2, 2));
        check.same("the lies", 3, x.lies(2));
        check.same("the plan", 2, x.value(4));
        check.same("its distances", 2, x.distance(1, 2));
        check.same("the hidden case", 7, x.value(5));
        check.same("its answers", 1, x.value(6));
        check.same("number 1 is true", 0, x.ask(8, 1));
        check.same("number 2 is a lie", 1, x.ask(8, 1));
        check.same("number 3 is a lie", 1, x.ask(8, 1));
        check.same("number 4 is true", 0, x.ask(8, 1));
        LyingScale y = Fixtures.asked(2);
        y.ask(1, 2);
        y.undo();
        check.same("the number of answers goes back", 2, y.value(6));
        LyingScale z = new LyingScale();
        z.hide(0, 0b10);
        z.ask(1, 2);
        check.same("a lie", 0, z.ask(1, 2));
        z.undo();
        check.same("the same lie again", 0, z.ask(1, 2));
    }

    // Rows that are used again must not be those of another state.
    private static void twoWays() {
        LyingScale x = new LyingScale();
        for (int i = 0; i < 6; i++) {
            x.tell(1 << i, 128, i % 3);
        }
        for (int i = 0; i < 3; i++) {
            x.undo();
        }
        for (int i = 0; i < 3; i++) {
            x.tell(128, 1 << i, 2);
        }
        int[] lefts = {1, 2, 4, 128, 128, 128};
        for (int i = 0; i < 6; i++) {
            check.same("left of " + i, lefts[i], x.weighing(i, 0));
        }
        for (int i = 0; i < 4; i++) {
            x.undo();
        }
        check.same("two are told", 2, x.value(2));
        check.same("the second one", 2, x.weighing(1, 0));
        check.refused(x, "no more", Fixtures.STATE, x::undo);
    }

    // The rows of the state before come back also where other weighings stood in between.
    private static void writtenOver() {
        LyingScale x = new LyingScale();
        x.tell(7, 56, 0);
        x.add(1, 2);
        x.begin(16);
        x.tell(256, 512, 1);
        x.add(4, 8);
        for (int i = 0; i < 3; i++) {
            x.undo();
        }
        check.same("the left set", 7, x.weighing(0, 0));
        check.same("the right set", 56, x.weighing(0, 1));
        check.same("the answer", 0, x.weighing(0, 2));
        check.same("the plan's left set", 1, x.distance(0, 1));
        check.same("the plan's right set", 1, x.distance(0, 3));
        check.same("the later plan's left set is gone", 0, x.distance(0, 5));
        check.same("the later plan's right set is gone", 0, x.distance(0, 7));
        check.same("the lies", 0, x.lies(1));
    }

    private static void digest() {
        says(29, "Returns a hash of the state.", () -> {
            LyingScale x = Fixtures.busy();
            check.same("twice the same", x.digest(), x.digest());
            check.same("the same calls, the same hash", Fixtures.busy().digest(), x.digest());
            check.same("of a new one", 1794284762936909913L, new LyingScale().digest());
        });
        says(29, "Start with h = 3821 and, for each of the following values v", () -> {
            LyingScale x = new LyingScale();
            check.same("new", byTheRule(x, 0, 0), x.digest());
            Fixtures.write(x, "ab");
            check.same("the length of the text", byTheRule(x, 2, 0), x.digest());
            x.setLimit(2);
            check.same("a saved state", byTheRule(x, 2, 1), x.digest());
            x.hide(3, 6);
            check.same("a hidden case", byTheRule(x, 2, 2), x.digest());
            x.ask(1, 2);
            check.same("an answer", byTheRule(x, 2, 3), x.digest());
            x.tell(16, 64, 2);
            check.same("a told weighing", byTheRule(x, 2, 4), x.digest());
            x.add(3, 12);
            check.same("one planned", byTheRule(x, 2, 4, 3, 12), x.digest());
            x.add(64, 1);
            check.same("two planned", byTheRule(x, 2, 4, 3, 12, 64, 1), x.digest());
            x.undo();
            check.same("undone", byTheRule(x, 2, 3, 3, 12), x.digest());
            LyingScale y = Fixtures.coins(4);
            int[][] plan = {{1, 2}, {1, 4}, {2, 8}, {3, 12}, {5, 10}, {9, 6}, {4, 8}, {2, 4}};
            int[] sets = new int[16];
            for (int i = 0; i < 8; i++) {
                y.add(plan[i][0], plan[i][1]);
                sets[2 * i] = plan[i][0];
                sets[2 * i + 1] = plan[i][1];
            }
            check.same("a least distance of 4", 4, y.leastDistance());
            check.same("a full plan", byTheRule(y, 0, 4, sets), y.digest());
        });
        says(29, "Returns the hash, with the overflow of long arithmetic ignored.", () -> {
            boolean negative = false;
            for (int told = 0; told <= 40; told++) {
                LyingScale x = Fixtures.coins(16);
                for (int i = 0; i < told; i++) {
                    x.tell(1 << i % 16, 1 << (i + 1) % 16, i % 3);
                }
                check.same("of " + told, byTheRule(x, 0, Math.min(told + 1, 4)), x.digest());
                negative |= x.digest() < 0;
            }
            check.same("some are negative", true, negative);
        });
    }

    private static long byTheRule(LyingScale x, int length, int saved, int... plan) {
        int told = x.value(2);
        int cases = 2 * x.value(0) + 1;
        List<Long> row = new ArrayList<>();
        row.add((long) length);
        for (int what = 0; what <= 8; what++) {
            row.add((long) x.value(what));
        }
        for (int i = 0; i < told; i++) {
            for (int what = 0; what <= 2; what++) {
                row.add((long) x.weighing(i, what));
            }
        }
        for (int number = 0; number < cases; number++) {
            row.add((long) x.lies(number));
        }
        for (int set : plan) {
            row.add((long) set);
        }
        row.add((long) x.leastDistance());
        row.add((long) x.bound());
        row.add(x.weight(5));
        row.add((long) x.bestGroup(3));
        row.add((long) saved);
        long h = 3821;
        for (long v : row) {
            h = 31 * h + v;
        }
        return h;
    }
}
