/** Each sentence of the promises 10 to 14 by itself: what the calls tell of the knowledge. */
public final class ValuesTest {
    private static final Check check = new Check("ValuesTest");
    private static Sentences document;

    private ValuesTest() {
    }

    public static void main(String[] args) {
        document = new Sentences(check, args, "Promise 10", "Promise 11", "Promise 12",
                "Promise 13", "Promise 14");
        lies();
        answer();
        leftCase();
        weighing();
        value();
        document.close();
    }

    private static void says(int promise, String start, Runnable test) {
        document.says("Promise " + promise, start, test);
    }

    /** Cases 0 to 6 have 4, 1, 4, 5, 2, 4, 4 lies. */
    private static LyingScale threeCoins() {
        LyingScale x = Fixtures.coins(3);
        x.tell(1, 2, 0);
        x.tell(4, 1, 1);
        x.tell(2, 4, 2);
        x.tell(1, 2, 0);
        x.tell(2, 4, 1);
        return x;
    }

    private static void numberOfCase(Fixtures.Ranged call, String what) {
        for (int coins = 2; coins <= 16; coins++) {
            int n = coins;
            Fixtures.range(check, what + " of " + n + " coins", 0, 2 * n, Fixtures.INDEX,
                    () -> Fixtures.coins(n), call);
        }
        Fixtures.range(check, what + " after other coins", 0, 10, Fixtures.INDEX, () -> {
            LyingScale x = Fixtures.coins(16);
            x.begin(5);
            return x;
        }, call);
    }

    private static void lies() {
        int[] want = {4, 1, 4, 5, 2, 4, 4};
        says(10, "Returns the number of lies of a case.", () -> {
            LyingScale x = threeCoins();
            for (int number = 0; number < 7; number++) {
                check.same("lies of " + number, want[number], x.lies(number));
            }
            x.setLimit(0);
            check.same("also of a case that is not left", 4, x.lies(2));
            x.undo();
            x.undo();
            check.same("after undo of a weighing", 3, x.lies(2));
            x.forget();
            check.same("after forget", 0, x.lies(2));
        });
        says(10, "`number`: the number of a case", () -> {
            LyingScale x = Fixtures.coins(16);
            x.tell(1 << 15, 1, 0);
            check.same("the first one", 1, x.lies(0));
            check.same("the last but one", 0, x.lies(31));
            check.same("the last one", 1, x.lies(32));
        });
        says(10, "Returns the number of weighings that were told whose answer", () -> {
            LyingScale x = new LyingScale();
            x.hide(1, 0b110);
            x.ask(1, 2);
            x.ask(1, 2);
            x.ask(2, 1);
            check.same("lies of the scale count", 2, x.lies(1));
            x.add(1, 2);
            check.same("the plan does not", 2, x.lies(1));
            x.forget();
            check.same("forgotten ones do not", 0, x.lies(1));
            LyingScale y = Fixtures.told(40);
            check.same("all of 40", 40, y.lies(1));
            check.same("none of 40", 0, y.lies(2));
        });
        says(10, "Throws `IndexOutOfBoundsException` if there is no such case",
                () -> numberOfCase((x, number) -> x.lies(number), "lies"));
    }

    private static void answer() {
        says(11, "Returns the true answer of a weighing in a case.", () -> {
            LyingScale x = new LyingScale();
            int[] want = {2, 0, 1, 1, 0, 0, 1, 1, 0, 2, 2, 2, 2, 2, 2, 2, 2};
            for (int number = 0; number < want.length; number++) {
                check.same("of case " + number, want[number], x.answer(number, 5, 10));
            }
            x.hide(1, 1073741823);
            check.same("not the one of the hidden case", 2, x.answer(0, 1, 2));
            check.same("no lie", 0, x.answer(1, 1, 2));
        });
        says(11, "`number`: the number of a case", () -> {
            LyingScale x = Fixtures.coins(16);
            check.same("the first one", 2, x.answer(0, 1, 32768));
            check.same("the last but one", 1, x.answer(31, 1, 32768));
            check.same("the last one", 0, x.answer(32, 1, 32768));
        });
        says(11, "`left`: a set of coins", () -> sides(0, 1));
        says(11, "`right`: a set of coins", () -> sides(1, 0));
        says(11, "Returns the answer.", () -> {
            LyingScale x = new LyingScale();
            check.due("left is heavier", 0, () -> x.answer(1, 1, 2));
            check.due("right is heavier", 1, () -> x.answer(2, 1, 2));
            check.due("they are alike", 2, () -> x.answer(5, 1, 2));
            check.same("it is not told", 0, x.value(2));
            LyingScale y = Fixtures.told(40);
            check.due("with 40 told", 0, () -> y.answer(1, 1, 2));
        });
        says(11, "Throws `IndexOutOfBoundsException` if there is no such case",
                () -> numberOfCase((x, number) -> x.answer(number, 1, 2), "answer"));
        says(11, "Throws `IllegalArgumentException` if the sets are not those of a weighing",
                () -> Fixtures.weighings(check, "answer of 0", x -> { },
                        (x, left, right) -> x.answer(0, left, right)));
    }

    private static void sides(int left, int right) {
        LyingScale x = Fixtures.coins(16);
        int[] sets = {0x5555, 0xaaaa};
        for (int k = 0; k < 16; k++) {
            boolean onLeft = (sets[left] >> k & 1) == 1;
            check.same("coin " + k + " is heavier", onLeft ? 0 : 1,
                    x.answer(2 * k + 1, sets[left], sets[right]));
            check.same("coin " + k + " is lighter", onLeft ? 1 : 0,
                    x.answer(2 * k + 2, sets[left], sets[right]));
        }
    }

    private static void leftCase() {
        says(12, "Returns a case that is left.", () -> {
            LyingScale x = threeCoins();
            x.setLimit(2);
            check.same("a heavier, one lie", 1, x.leftCase(0));
            check.same("b lighter, two lies", 4, x.leftCase(1));
            x.setLimit(1);
            check.same("a heavier alone", 1, x.leftCase(0));
            check.refused(x, "no other", Fixtures.INDEX, () -> x.leftCase(1));
        });
        says(12, "`index`: 0 for the one with the lowest number, and so on", () -> {
            LyingScale x = Fixtures.limited(8, 0);
            x.tell(12, 48, 1);
            int[] want = {6, 8, 9, 11};
            for (int index = 0; index < want.length; index++) {
                check.same("index " + index, want[index], x.leftCase(index));
            }
        });
        says(12, "Returns its number.", () -> {
            for (int coins = 2; coins <= 16; coins++) {
                LyingScale x = Fixtures.coins(coins);
                for (int index = 0; index <= 2 * coins; index++) {
                    check.same("all are left", index, x.leftCase(index));
                }
            }
        });
        says(12, "Throws `IndexOutOfBoundsException` if not so many cases are left", () -> {
            numberOfCase((x, index) -> x.leftCase(index), "leftCase");
            Fixtures.range(check, "leftCase of four", 0, 3, Fixtures.INDEX, () -> {
                LyingScale x = Fixtures.limited(8, 0);
                x.tell(12, 48, 1);
                return x;
            }, (x, index) -> x.leftCase(index));
            LyingScale y = Fixtures.told(2);
            y.tell(4, 8, 0);
            y.setLimit(0);
            check.same("none is left", 0, y.value(3));
            check.refused(y, "index 0 of none", Fixtures.INDEX, () -> y.leftCase(0));
            check.refused(y, "index -1 of none", Fixtures.INDEX, () -> y.leftCase(-1));
        });
    }

    private static void weighing() {
        says(13, "Returns something about a weighing that was told.", () -> {
            LyingScale x = Fixtures.asked(1);
            x.tell(7, 56, 2);
            x.add(64, 128);
            check.same("the asked one", 1, x.weighing(0, 2));
            check.same("the told one", 7, x.weighing(1, 0));
            check.refused(x, "not the planned one", Fixtures.INDEX, () -> x.weighing(2, 0));
        });
        says(13, "`index`: 0 for the first one, and so on", () -> {
            LyingScale x = Fixtures.coins(16);
            for (int i = 0; i < 40; i++) {
                x.tell(1 << i % 16, 1 << (i + 1) % 16, i % 3);
            }
            for (int i = 0; i < 40; i++) {
                check.same("left of " + i, 1 << i % 16, x.weighing(i, 0));
                check.same("right of " + i, 1 << (i + 1) % 16, x.weighing(i, 1));
                check.same("answer of " + i, i % 3, x.weighing(i, 2));
            }
        });
        says(13, "`what`: 0 its left set, 1 its right set, 2 its answer", () -> {
            LyingScale x = Fixtures.coins(16);
            x.tell(65280, 255, 2);
            check.same("0", 65280, x.weighing(0, 0));
            check.same("1", 255, x.weighing(0, 1));
            check.same("2", 2, x.weighing(0, 2));
        });
        says(13, "Returns that value.", () -> {
            for (int answer = 0; answer <= 2; answer++) {
                LyingScale x = new LyingScale();
                x.tell(9, 96, answer);
                check.same("left", 9, x.weighing(0, 0));
                check.same("right", 96, x.weighing(0, 1));
                check.same("answer", answer, x.weighing(0, 2));
                check.same("they stay", 9, x.weighing(0, 0));
            }
        });
        says(13, "Throws `IndexOutOfBoundsException` if not so many weighings were told", () -> {
            LyingScale x = new LyingScale();
            for (int index : new int[] {-1, 0, 1, 40, Fixtures.LEAST, Fixtures.GREATEST}) {
                check.refused(x, "none is told", Fixtures.INDEX, () -> x.weighing(index, 0));
            }
            for (int told : new int[] {1, 2, 39, 40}) {
                Fixtures.range(check, "weighing of " + told, 0, told - 1, Fixtures.INDEX,
                        () -> Fixtures.told(told), (y, index) -> y.weighing(index, 2));
            }
            LyingScale z = Fixtures.told(2);
            z.undo();
            check.refused(z, "undone", Fixtures.INDEX, () -> z.weighing(1, 0));
            z.forget();
            check.refused(z, "forgotten", Fixtures.INDEX, () -> z.weighing(0, 0));
        });
        says(13, "Throws `IllegalArgumentException` if what is out of range",
                () -> Fixtures.range(check, "weighing(2, ..)", 0, 2, Fixtures.ARGUMENT,
                        Fixtures::busy, (x, what) -> x.weighing(2, what)));
    }

    private static void value() {
        says(14, "Returns a number.", () -> {
            LyingScale x = Fixtures.busy();
            String before = Fixtures.seen(x);
            for (int what = 0; what <= 8; what++) {
                int w = what;
                check.same("twice the same", x.value(w), x.value(w));
            }
            check.same("nothing changes", before, Fixtures.seen(x));
        });
        says(14, "`what`: 0 the coins, 1 the limit, 2 the weighings that were told", () -> {
            eachValue();
            falseCoins();
        });
        says(14, "Returns that number.", () -> {
            // e heavier, e lighter and a lighter have three lies
            int[] want = {5, 2, 3, 8, 2, 7, 1, 15, 1};
            LyingScale x = Fixtures.busy();
            for (int what = 0; what < want.length; what++) {
                check.same("value(" + what + ")", want[what], x.value(what));
            }
        });
        says(14, "Throws `IllegalArgumentException` if what is out of range", () -> {
            Fixtures.range(check, "value", 0, 8, Fixtures.ARGUMENT, Fixtures::busy,
                    (x, what) -> x.value(what));
            Fixtures.range(check, "value", 0, 8, Fixtures.ARGUMENT, LyingScale::new,
                    (x, what) -> x.value(what));
        });
    }

    private static void eachValue() {
        check.same("0 the coins", 13, Fixtures.coins(13).value(0));
        check.same("1 the limit", 2, Fixtures.limited(13, 2).value(1));
        check.same("2 told, none", 0, new LyingScale().value(2));
        check.same("2 told, 40", 40, Fixtures.told(40).value(2));
        check.same("3 left, all", 33, Fixtures.coins(16).value(3));
        check.same("3 left, some", 2, Fixtures.told(2).value(3));
        check.same("4 planned, none", 0, Fixtures.told(2).value(4));
        check.same("4 planned, 8", 8, Fixtures.planned(8).value(4));
        check.same("5 hidden, none", LyingScale.NONE, Fixtures.told(2).value(5));
        LyingScale x = new LyingScale();
        x.hide(0, 0);
        check.same("5 hidden, case 0", 0, x.value(5));
        x.begin(8);
        check.same("5 hidden, none again", LyingScale.NONE, x.value(5));
        check.same("6 answered, 30", 30, Fixtures.asked(30).value(6));
        LyingScale y = Fixtures.asked(3);
        y.tell(1, 2, 0);
        y.forget();
        check.same("6 answered, forget does not count", 3, y.value(6));
        y.hide(3, 0);
        check.same("6 answered, since it was hidden", 0, y.value(6));
        check.same("8 case 0 is left", 1, Fixtures.told(1).value(8));
        check.same("8 case 0 is not left", 0, Fixtures.told(2).value(8));
    }

    private static void falseCoins() {
        check.same("7 of a new one", 255, new LyingScale().value(7));
        check.same("7 of 16 coins", 65535, Fixtures.coins(16).value(7));
        LyingScale x = Fixtures.limited(16, 0);
        x.tell(0x8001, 6, 0);
        check.same("7 both sides", 0x8007, x.value(7));
        x.tell(0x8000, 8, 0);
        check.same("7 the last coin", 0x8000, x.value(7));
        x.tell(1, 2, 0);
        check.same("7 no case", 0, x.value(7));
        LyingScale y = Fixtures.limited(2, 0);
        y.tell(1, 2, 2);
        check.same("7 case 0 alone has no false coin", 0, y.value(7));
        check.same("8 case 0 alone", 1, y.value(8));
    }
}
