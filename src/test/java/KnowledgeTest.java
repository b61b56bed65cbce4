import java.util.List;
import java.util.function.Consumer;
import java.util.function.Supplier;

/** Each sentence of the promises 1 to 9 by itself: knowledge, the hidden case, the plan. */
public final class KnowledgeTest {
    private static final Check check = new Check("KnowledgeTest");
    private static Sentences document;

    private KnowledgeTest() {
    }

    public static void main(String[] args) {
        document = new Sentences(check, args, "Promise 1", "Promise 2", "Promise 3", "Promise 4",
                "Promise 5", "Promise 6", "Promise 7", "Promise 8", "Promise 9");
        newObject();
        begin();
        setLimit();
        tell();
        forget();
        hide();
        ask();
        add();
        removeLast();
        document.close();
    }

    private static void says(int promise, String start, Runnable test) {
        document.says("Promise " + promise, start, test);
    }

    private static void values(LyingScale x, int... want) {
        for (int what = 0; what < want.length; what++) {
            check.same("value(" + what + ")", want[what], x.value(what));
        }
    }

    /** The call saves one state, which undo brings back, also if it changes nothing. */
    private static void undoable(Supplier<LyingScale> ready, Consumer<LyingScale> call) {
        LyingScale x = ready.get();
        // The digest tells the number of saved states: with 4 of them a call drops the oldest one.
        int saved = Fixtures.saved(ready.get());
        String before = Fixtures.seen(x).replaceFirst("-?\\d+", "");
        call.accept(x);
        check.due("saved states", Math.min(saved, 3), x::undo);
        check.same("the state from before", before, Fixtures.seen(x).replaceFirst("-?\\d+", ""));
        check.same("it goes on as before", Fixtures.answers(ready.get()), Fixtures.answers(x));
        LyingScale y = ready.get();
        call.accept(y);
        check.same("one state is saved", Math.min(saved + 1, 4), Fixtures.saved(y));
    }

    private static void newObject() {
        says(1, "Creates a scale with 8 coins", () -> {
            LyingScale x = new LyingScale();
            values(x, 8, 1, 0, 17, 0, -1, 0, 255, 1);
            check.same("no text", 0, x.clearText());
            check.refused(x, "no weighings", Fixtures.INDEX, () -> x.weighing(0, 0));
            check.refused(x, "no plan", Fixtures.STATE, x::removeLast);
            check.refused(x, "no hidden case", Fixtures.STATE, () -> x.ask(1, 2));
            check.refused(x, "no saved state", Fixtures.STATE, x::undo);
            LyingScale y = Fixtures.busy();
            values(new LyingScale(), 8, 1, 0, 17, 0, -1, 0, 255, 1);
            check.same("objects share nothing", 5, y.value(0));
        });
    }

    private static void begin() {
        says(2, "Begins with other coins: the limit is 1", () -> {
            for (int limit = 0; limit <= 2; limit++) {
                LyingScale x = Fixtures.busy();
                x.setLimit(limit);
                x.begin(16);
                values(x, 16, 1, 0, 33, 0, -1, 0, 65535, 1);
                check.refused(x, "no hidden case", Fixtures.STATE, () -> x.ask(1, 2));
                check.refused(x, "no weighings", Fixtures.INDEX, () -> x.weighing(0, 0));
                check.refused(x, "no plan", Fixtures.STATE, x::removeLast);
                check.same("no lies", 0, x.lies(1));
                check.same("NONE was hidden", -1, x.hide(0, 0));
                check.same("no lies of the one before", 2, x.ask(1, 2));
            }
            LyingScale y = Fixtures.busy();
            y.begin(5);
            values(y, 5, 1, 0, 11, 0, -1, 0, 31, 1);
            check.same("the text stays", 21, y.clearText());
        });
        says(2, "Undoable.", () -> {
            undoable(Fixtures::busy, x -> x.begin(16));
            undoable(Fixtures::busy, x -> x.begin(2));
            undoable(LyingScale::new, x -> x.begin(8));
            undoable(() -> Fixtures.told(40), x -> x.begin(16));
        });
        says(2, "`coins`: 2 to 16", () -> {
            for (int coins = 2; coins <= 16; coins++) {
                int n = coins;
                LyingScale x = new LyingScale();
                check.due("begin(" + n + ")", 0, () -> x.begin(n));
                values(x, n, 1, 0, 2 * n + 1, 0, -1, 0, (1 << n) - 1, 1);
            }
        });
        says(2, "Returns the weighings that were told.", () -> {
            check.due("none", 0, () -> new LyingScale().begin(3));
            check.due("one", 1, () -> Fixtures.told(1).begin(3));
            check.due("40", 40, () -> Fixtures.told(40).begin(16));
            check.due("told and asked, not planned", 3, () -> Fixtures.busy().begin(5));
            LyingScale x = Fixtures.told(7);
            x.begin(4);
            check.due("they are forgotten then", 0, () -> x.begin(4));
        });
        says(2, "Throws `IllegalArgumentException` if coins is out of range", () -> {
            Fixtures.range(check, "begin", 2, 16, Fixtures.ARGUMENT, Fixtures::busy,
                    (x, coins) -> x.begin(coins));
            Fixtures.range(check, "begin", 2, 16, Fixtures.ARGUMENT, LyingScale::new,
                    (x, coins) -> x.begin(coins));
        });
    }

    private static void setLimit() {
        says(3, "Sets the limit of lies.", () -> {
            for (int limit = 0; limit <= 2; limit++) {
                LyingScale x = new LyingScale();
                x.setLimit(limit);
                check.same("the limit", limit, x.value(1));
                check.same("the weight tells it", 17L * new int[] {1, 9, 33}[limit], x.weight(4));
            }
            LyingScale y = Fixtures.busy();
            y.setLimit(0);
            check.same("the rest stays: told", 3, y.value(2));
            check.same("the rest stays: hidden", 7, y.value(5));
            check.same("the rest stays: answered", 1, y.value(6));
            check.same("the rest stays: planned", 2, y.value(4));
        });
        says(3, "Undoable.", () -> {
            undoable(Fixtures::busy, x -> x.setLimit(0));
            undoable(LyingScale::new, x -> x.setLimit(1));
            undoable(LyingScale::new, x -> x.setLimit(2));
        });
        says(3, "`lies`: 0 to 2", () -> {
            LyingScale x = new LyingScale();
            check.due("setLimit(0)", 17, () -> x.setLimit(0));
            check.due("setLimit(1)", 17, () -> x.setLimit(1));
            check.due("setLimit(2)", 17, () -> x.setLimit(2));
        });
        says(3, "Returns the cases that are left then.", () -> {
            LyingScale x = Fixtures.told(1);
            x.tell(4, 8, 2);
            // no lie: a lighter, b heavier; 2: c and d; 1: the others
            check.due("with the new limit 0", 2, () -> x.setLimit(0));
            check.due("with the new limit 1", 13, () -> x.setLimit(1));
            check.due("with the new limit 2", 17, () -> x.setLimit(2));
            check.due("again with 0", 2, () -> x.setLimit(0));
            x.tell(1, 2, 0);
            check.due("none", 0, () -> x.setLimit(0));
        });
        says(3, "Throws `IllegalArgumentException` if lies is out of range",
                () -> Fixtures.range(check, "setLimit", 0, 2, Fixtures.ARGUMENT, Fixtures::busy,
                        (x, limit) -> x.setLimit(limit)));
    }

    private static void tell() {
        says(4, "Tells a weighing and its answer.", () -> {
            LyingScale x = new LyingScale();
            int[][] rows = {{1, 2, 0}, {240, 15, 1}, {128, 1, 2}, {1, 2, 0}};
            for (int i = 0; i < rows.length; i++) {
                x.tell(rows[i][0], rows[i][1], rows[i][2]);
                check.same("told", i + 1, x.value(2));
                for (int what = 0; what < 3; what++) {
                    check.same("part " + what, rows[i][what], x.weighing(i, what));
                }
            }
            check.same("it is not planned", 0, x.value(4));
            LyingScale y = Fixtures.asked(1);
            y.tell(1, 2, 0);
            check.same("the scale did not answer it", 1, y.value(6));
        });
        says(4, "Undoable.", () -> {
            undoable(Fixtures::busy, x -> x.tell(8, 16, 1));
            undoable(() -> Fixtures.told(39), x -> x.tell(1, 2, 0));
            undoable(LyingScale::new, x -> x.tell(1, 2, 0));
        });
        says(4, "`left`: a set of coins", () -> {
            check.same("the left coins are looked at", 0,
                    lies(x -> x.tell(0b1001, 0b110, 0), 1));
            check.same("each of them", 0, lies(x -> x.tell(0b1001, 0b110, 0), 7));
            check.same("and no other", 1, lies(x -> x.tell(0b1001, 0b110, 0), 9));
        });
        says(4, "`right`: a set of coins", () -> {
            check.same("the right coins are looked at", 0,
                    lies(x -> x.tell(0b1001, 0b110, 1), 3));
            check.same("each of them", 0, lies(x -> x.tell(0b1001, 0b110, 1), 5));
            check.same("and no other", 1, lies(x -> x.tell(0b1001, 0b110, 1), 9));
        });
        says(4, "`answer`: 0 to 2", () -> {
            check.same("0, left is heavier", 0, lies(x -> x.tell(1, 2, 0), 1));
            check.same("1, right is heavier", 0, lies(x -> x.tell(1, 2, 1), 3));
            check.same("2, alike", 0, lies(x -> x.tell(1, 2, 2), 5));
        });
        says(4, "Returns the cases that are left then.", KnowledgeTest::tellAnswers);
        says(4, "Throws `IllegalArgumentException` if the sets are not those of a weighing", () -> {
            Fixtures.weighings(check, "tell", x -> { }, (x, l, r) -> x.tell(l, r, 0));
            Fixtures.range(check, "tell(1, 2, ..)", 0, 2, Fixtures.ARGUMENT, Fixtures::busy,
                    (x, answer) -> x.tell(1, 2, answer));
        });
        says(4, "Throws `IllegalStateException` if 40 weighings were told", () -> {
            LyingScale x = Fixtures.told(39);
            check.due("the 40th", 2, () -> x.tell(1, 2, 1));
            check.refused(x, "the 41st", Fixtures.STATE, () -> x.tell(1, 2, 1));
            LyingScale y = Fixtures.asked(30);
            for (int i = 0; i < 10; i++) {
                y.tell(1, 2, 1);
            }
            check.refused(y, "the 41st, 30 of them asked", Fixtures.STATE, () -> y.tell(1, 2, 1));
            y.undo();
            check.due("after undo", 2, () -> y.tell(1, 2, 2));
        });
    }

    private static int lies(Consumer<LyingScale> call, int number) {
        LyingScale x = new LyingScale();
        call.accept(x);
        return x.lies(number);
    }

    private static void tellAnswers() {
        LyingScale x = Fixtures.limited(8, 0);
        check.due("abc against def", 6, () -> x.tell(7, 56, 0));
        check.due("a against b", 1, () -> x.tell(1, 2, 0));
        check.due("a cannot be lighter too", 0, () -> x.tell(1, 2, 1));
        LyingScale y = new LyingScale();
        check.due("one lie may be", 17, () -> y.tell(7, 56, 0));
        check.due("two may not", 6, () -> y.tell(7, 56, 0));
        LyingScale z = Fixtures.limited(16, 2);
        check.due("two lies may be", 33, () -> z.tell(255, 65280, 0));
        check.due("two lies may be", 33, () -> z.tell(255, 65280, 0));
        check.due("three may not", 16, () -> z.tell(255, 65280, 0));
    }

    private static void forget() {
        says(5, "Forgets all weighings that were told; the plan and the hidden case stay.", () -> {
            LyingScale x = Fixtures.busy();
            x.forget();
            values(x, 5, 2, 0, 11, 2, 7, 1, 31, 1);
            for (int number = 0; number < 11; number++) {
                check.same("lies of " + number, 0, x.lies(number));
            }
            check.refused(x, "no weighing", Fixtures.INDEX, () -> x.weighing(0, 0));
            check.same("the first weighing of the plan", 1, x.distance(3, 7) - x.distance(5, 7));
            check.same("the lies of the scale: number 1 is none", 0, x.ask(8, 1));
            check.same("number 2 is a lie", 1, x.ask(8, 1));
            check.same("the text", 21, x.clearText());
            LyingScale y = Fixtures.told(40);
            y.forget();
            check.due("40 can be told again", 17, () -> y.tell(1, 2, 0));
        });
        says(5, "Undoable.", () -> {
            undoable(Fixtures::busy, LyingScale::forget);
            undoable(LyingScale::new, LyingScale::forget);
            undoable(() -> Fixtures.told(40), LyingScale::forget);
        });
        says(5, "Returns the weighings that were told.", () -> {
            check.due("none", 0, () -> new LyingScale().forget());
            check.due("one", 1, () -> Fixtures.told(1).forget());
            check.due("40", 40, () -> Fixtures.told(40).forget());
            check.due("told and asked, not planned", 3, () -> Fixtures.busy().forget());
            LyingScale x = Fixtures.told(5);
            x.forget();
            check.due("forgotten already", 0, x::forget);
        });
    }

    private static void hide() {
        says(6, "Hides a case, in place of the one before", () -> {
            LyingScale x = Fixtures.asked(30);
            x.hide(5, 0);
            check.same("the hidden case", 5, x.value(5));
            check.same("no answer since then", 0, x.value(6));
            check.same("it answers for the new one", 0, x.ask(4, 1));
            check.same("the told weighings stay", 31, x.value(2));
            LyingScale y = new LyingScale();
            y.hide(0, 1);
            y.hide(0, 0);
            check.same("the lies go with the case before", 2, y.ask(1, 2));
            y.hide(0, 2);
            y.ask(1, 2);
            check.same("the numbers begin anew", 0, y.ask(1, 2));
            y.hide(0, 2);
            check.same("also for the same case", 2, y.ask(1, 2));
            check.same("also for the same case", 0, y.ask(1, 2));
        });
        says(6, "Undoable.", () -> {
            undoable(Fixtures::busy, x -> x.hide(0, 0));
            undoable(Fixtures::busy, x -> x.hide(7, 1073741823));
            undoable(LyingScale::new, x -> x.hide(16, 1));
            undoable(() -> Fixtures.asked(3), x -> x.hide(3, 0));
        });
        says(6, "`hidden`: the number of a case", () -> {
            for (int number = 0; number < 33; number++) {
                LyingScale x = Fixtures.coins(16);
                x.hide(number, 0);
                check.same("hidden", number, x.value(5));
                check.same("answer", x.answer(number, 21845, 43690), x.ask(21845, 43690));
            }
        });
        says(6, "`lies`: the set of numbers of weighings at which the scale lies", () -> {
            for (int set : new int[] {0, 1, 2, 5, 1 << 29, 0b110101, 1073741823, 715827882}) {
                LyingScale x = new LyingScale();
                x.hide(0, set);
                for (int n = 0; n < 30; n++) {
                    int lie = set >> n & 1;
                    check.same("lies " + set + ", number " + n, lie == 1 ? 0 : 2, x.ask(1, 2));
                }
            }
        });
        says(6, "Returns the case that was hidden before; NONE if there was none.", () -> {
            LyingScale x = new LyingScale();
            check.due("none", LyingScale.NONE, () -> x.hide(0, 0));
            check.due("case 0", 0, () -> x.hide(16, 0));
            check.due("case 16", 16, () -> x.hide(16, 0));
            x.begin(8);
            check.due("none after begin", -1, () -> x.hide(5, 0));
            x.forget();
            check.due("forget keeps it", 5, () -> x.hide(6, 0));
            x.undo();
            check.due("the one from before undo", 5, () -> x.hide(7, 0));
        });
        says(6, "Throws `IndexOutOfBoundsException` if there is no such case", () -> {
            for (int coins = 2; coins <= 16; coins++) {
                int n = coins;
                Fixtures.range(check, "hide of " + n + " coins", 0, 2 * n, Fixtures.INDEX,
                        () -> Fixtures.coins(n), (x, number) -> x.hide(number, 0));
            }
        });
        says(6, "Throws `IllegalArgumentException` if lies is out of range",
                () -> Fixtures.range(check, "hide(1, ..)", 0, 1073741823, Fixtures.ARGUMENT,
                        Fixtures::busy, (x, lies) -> x.hide(1, lies)));
    }

    private static void ask() {
        says(7, "Lets the scale answer a weighing; weighing and answer are told then.", () -> {
            LyingScale x = new LyingScale();
            x.hide(9, 0b10);
            int[][] rows = {{16, 1, 0}, {1, 16, 2}, {9, 48, 1}, {32, 64, 2}};
            for (int i = 0; i < rows.length; i++) {
                check.same("answer " + i, rows[i][2], x.ask(rows[i][0], rows[i][1]));
                check.same("told", i + 1, x.value(2));
                check.same("answered", i + 1, x.value(6));
                for (int what = 0; what < 3; what++) {
                    check.same("part " + what, rows[i][what], x.weighing(i, what));
                }
            }
            check.same("lies of the hidden case", 1, x.lies(9));
            check.same("lies of case 0", 2, x.lies(0));
            check.same("it is not planned", 0, x.value(4));
        });
        says(7, "Undoable.", () -> {
            undoable(Fixtures::busy, x -> x.ask(8, 1));
            undoable(() -> Fixtures.asked(29), x -> x.ask(1, 2));
            undoable(() -> Fixtures.asked(1), x -> x.ask(1, 2));
        });
        says(7, "`left`: a set of coins", () -> {
            LyingScale x = new LyingScale();
            x.hide(7, 0);
            check.same("d is one of the left coins", 0, x.ask(0b1001, 0b110));
            check.same("d is no left coin", 2, x.ask(0b10001, 0b110));
        });
        says(7, "`right`: a set of coins", () -> {
            LyingScale x = new LyingScale();
            x.hide(7, 0);
            check.same("d is one of the right coins", 1, x.ask(0b110, 0b1001));
            check.same("d is no right coin", 2, x.ask(0b110, 0b10001));
        });
        says(7, "Returns the answer.", () -> {
            int[][] pairs = {{7, 56}, {200, 19}, {129, 66}, {32, 4}};
            for (int number = 0; number < 17; number++) {
                LyingScale x = new LyingScale();
                x.hide(number, 0b1010);
                for (int n = 0; n < 4; n++) {
                    int left = pairs[n][0];
                    int right = pairs[n][1];
                    int want = (x.answer(number, left, right) + n % 2) % 3;
                    check.same("answer " + n + " of case " + number, want, x.ask(left, right));
                }
            }
        });
        says(7, "Throws `IllegalArgumentException` if the sets are not those of a weighing",
                () -> Fixtures.weighings(check, "ask", x -> x.hide(0, 0), LyingScale::ask));
        says(7, "Throws `IllegalStateException` if there is no hidden case", () -> {
            LyingScale x = new LyingScale();
            check.refused(x, "no hidden case", Fixtures.STATE, () -> x.ask(1, 2));
            x.hide(0, 0);
            check.due("a hidden case", 2, () -> x.ask(1, 2));
            x.begin(8);
            check.refused(x, "no hidden case again", Fixtures.STATE, () -> x.ask(1, 2));
            LyingScale y = Fixtures.told(39);
            y.hide(3, 0);
            check.due("the 40th", 1, () -> y.ask(1, 2));
            check.refused(y, "40 weighings were told", Fixtures.STATE, () -> y.ask(1, 2));
            LyingScale z = Fixtures.asked(29);
            check.due("the 30th answer", 1, () -> z.ask(1, 2));
            check.refused(z, "30 are answered", Fixtures.STATE, () -> z.ask(1, 2));
            z.forget();
            check.refused(z, "forget does not help", Fixtures.STATE, () -> z.ask(1, 2));
            z.hide(3, 0);
            check.due("hide does", 1, () -> z.ask(1, 2));
        });
    }

    private static void add() {
        says(8, "Adds a weighing to the plan.", () -> {
            LyingScale x = new LyingScale();
            x.add(0b101, 0b1010);
            check.same("one is planned", 1, x.value(4));
            check.same("none is told", 0, x.value(2));
            check.same("its answers are 0 and 1", 1, x.distance(1, 2));
            check.same("its answers are 0 and 0", 0, x.distance(1, 4));
            check.same("its answers are 0 and 2", 1, x.distance(1, 9));
            x.add(16, 1);
            check.same("the second one is added, not put in its place", 2, x.distance(1, 2));
        });
        says(8, "Undoable.", () -> {
            undoable(Fixtures::busy, x -> x.add(8, 16));
            undoable(LyingScale::new, x -> x.add(1, 2));
            undoable(() -> Fixtures.planned(7), x -> x.add(1, 2));
        });
        says(8, "`left`: a set of coins", () -> sideOfPlan(0b11, 0b1100));
        says(8, "`right`: a set of coins", () -> sideOfPlan(0b1100, 0b11));
        says(8, "Returns its number.", () -> {
            LyingScale x = new LyingScale();
            for (int n = 0; n < 8; n++) {
                int number = n;
                check.due("add", number, () -> x.add(1, 2));
            }
            x.removeLast();
            x.removeLast();
            check.due("after removeLast", 6, () -> x.add(1, 2));
            x.begin(8);
            check.due("after begin", 0, () -> x.add(1, 2));
        });
        says(8, "Throws `IllegalArgumentException` if the sets are not those of a weighing",
                () -> Fixtures.weighings(check, "add", x -> { }, LyingScale::add));
        says(8, "Throws `IllegalStateException` if the plan has 8 weighings", () -> {
            LyingScale x = Fixtures.planned(7);
            check.due("the 8th", 7, () -> x.add(1, 2));
            check.refused(x, "the 9th", Fixtures.STATE, () -> x.add(1, 2));
            x.forget();
            check.refused(x, "the plan stays full", Fixtures.STATE, () -> x.add(1, 2));
            x.removeLast();
            check.due("the 8th again", 7, () -> x.add(1, 2));
        });
    }

    private static void sideOfPlan(int left, int right) {
        LyingScale x = new LyingScale();
        x.add(left, right);
        for (int number = 0; number < 17; number++) {
            int same = x.answer(number, left, right) == 2 ? 0 : 1;
            check.same("case " + number + " and case 0", same, x.distance(number, 0));
        }
        for (int answer = 0; answer < 2; answer++) {
            check.same("several answer so", -1, x.decode(answer));
        }
        LyingScale y = Fixtures.coins(2);
        y.add(left == 3 ? 1 : 2, left == 3 ? 2 : 1);
        y.add(left == 3 ? 1 : 2, left == 3 ? 2 : 1);
        check.same("case 0 alone answers 2, 2", 0, y.decode(8));
    }

    private static void removeLast() {
        says(9, "Removes the last weighing of the plan.", () -> {
            LyingScale x = new LyingScale();
            x.add(1, 2);
            x.add(1, 4);
            x.removeLast();
            check.same("the first one stays", 1, x.distance(0, 3));
            check.same("the last one went", 0, x.distance(0, 5));
            x.add(8, 16);
            check.same("another one in its place", 0, x.distance(0, 5));
            check.same("another one in its place", 1, x.distance(0, 7));
            check.same("two are planned", 2, x.value(4));
        });
        says(9, "Undoable.", () -> {
            undoable(Fixtures::busy, LyingScale::removeLast);
            undoable(() -> Fixtures.planned(1), LyingScale::removeLast);
            undoable(() -> Fixtures.planned(8), LyingScale::removeLast);
        });
        says(9, "Returns the weighings that are left in the plan.", () -> {
            LyingScale x = Fixtures.planned(8);
            for (int left = 7; left >= 0; left--) {
                int want = left;
                check.due("removeLast", want, x::removeLast);
                check.same("planned", want, x.value(4));
            }
        });
        says(9, "Throws `IllegalStateException` if the plan is empty", () -> {
            for (LyingScale x : List.of(new LyingScale(), Fixtures.told(3), Fixtures.asked(2))) {
                check.refused(x, "an empty plan", Fixtures.STATE, x::removeLast);
            }
            LyingScale y = Fixtures.planned(1);
            check.due("the only one", 0, y::removeLast);
            check.refused(y, "empty then", Fixtures.STATE, y::removeLast);
            LyingScale z = Fixtures.planned(3);
            z.begin(8);
            check.refused(z, "empty by begin", Fixtures.STATE, z::removeLast);
        });
    }
}
