/** Each sentence of the promises 15 to 19 by itself: the bounds by counts. */
public final class BoundsTest {
    private static final Check check = new Check("BoundsTest");
    private static Sentences document;

    private BoundsTest() {
    }

    public static void main(String[] args) {
        document = new Sentences(check, args, "Promise 15", "Promise 16", "Promise 17",
                "Promise 18", "Promise 19");
        weight();
        bound();
        weightBehind();
        bestGroup();
        teaches();
        document.close();
    }

    private static void says(int promise, String start, Runnable test) {
        document.says("Promise " + promise, start, test);
    }

    /** 4 coins, the limit 2: cases 0 to 8 have 1, 0, 1, 2, 2, 1, 0, 2, 2 lies. */
    private static LyingScale fourCoins() {
        LyingScale x = Fixtures.limited(4, 2);
        x.tell(1, 4, 0);
        x.tell(2, 8, 2);
        return x;
    }

    private static void weight() {
        says(15, "Returns the weight for a number of weighings.", () -> {
            LyingScale x = fourCoins();
            int[] lies = {1, 0, 1, 2, 2, 1, 0, 2, 2};
            for (int number = 0; number < 9; number++) {
                check.same("lies of " + number, lies[number], x.lies(number));
            }
            check.same("for 3", 2L * 19 + 3 * 7 + 4, x.weight(3));
            x.setLimit(1);
            check.same("for 3, the limit 1", 2L * 7 + 3, x.weight(3));
            x.setLimit(0);
            check.same("for 3, the limit 0", 2L, x.weight(3));
        });
        says(15, "`weighings`: 0 to 20", () -> {
            LyingScale x = Fixtures.limited(16, 2);
            for (int w = 0; w <= 20; w++) {
                check.same("for " + w, 33L * (1 + 2 * w * w), x.weight(w));
            }
        });
        says(15, "Returns the weight.", () -> {
            check.same("the least", 0L, noCase().weight(20));
            check.same("the greatest", 26433L, Fixtures.limited(16, 2).weight(20));
            LyingScale x = Fixtures.busy();
            String before = Fixtures.seen(x);
            x.weight(20);
            check.same("nothing changes", before, Fixtures.seen(x));
        });
        says(15, "Throws `IllegalArgumentException` if weighings is out of range", () -> {
            Fixtures.range(check, "weight", 0, 20, Fixtures.ARGUMENT, Fixtures::busy,
                    (x, w) -> x.weight(w));
            Fixtures.range(check, "weight of no case", 0, 20, Fixtures.ARGUMENT,
                    BoundsTest::noCase, (x, w) -> x.weight(w));
        });
    }

    private static LyingScale noCase() {
        LyingScale x = Fixtures.limited(8, 0);
        x.tell(1, 2, 0);
        x.tell(1, 2, 1);
        return x;
    }

    private static void bound() {
        says(16, "Returns the least number of weighings that could be enough by counts.", () -> {
            check.same("187 of 243, 153 of 81", 5, new LyingScale().bound());
            check.same("17 of 27", 3, Fixtures.limited(8, 0).bound());
            check.same("33 * 129 of 6561, 33 * 99 of 2187", 8, Fixtures.limited(16, 2).bound());
            check.same("5 of 9", 2, Fixtures.limited(2, 0).bound());
        });
        says(16, "Returns the least w, 0 to 20, for which the weight for w is at most", () -> {
            check.same("27 of 27: equal is enough", 3, Fixtures.limited(13, 0).bound());
            check.same("29 of 27 is too much", 4, Fixtures.limited(14, 0).bound());
            check.same("9 of 9", 2, Fixtures.limited(4, 0).bound());
            LyingScale x = Fixtures.limited(14, 0);
            x.tell(1, 2, 0);
            check.same("2 of 3", 1, x.bound());
            x.tell(1, 4, 0);
            check.same("1 of 1: the least is 0", 0, x.bound());
            check.same("no case: 0 of 1", 0, noCase().bound());
            for (int limit = 0; limit <= 2; limit++) {
                for (int coins = 2; coins <= 16; coins++) {
                    LyingScale y = Fixtures.limited(coins, limit);
                    y.tell(1, 2, 2);
                    check.same("by its rule", byItsRule(y), y.bound());
                }
            }
            LyingScale y = Fixtures.busy();
            String before = Fixtures.seen(y);
            y.bound();
            check.same("nothing changes", before, Fixtures.seen(y));
        });
    }

    private static int byItsRule(LyingScale x) {
        for (int w = 0; w <= 20; w++) {
            if (x.weight(w) <= Math.pow(3, w)) {
                return w;
            }
        }
        return LyingScale.NONE;
    }

    private static void weightBehind() {
        says(17, "Returns the weight behind a weighing with an answer.", () -> {
            LyingScale x = new LyingScale();
            check.same("6 without, 11 with a lie", 65L, x.weightBehind(7, 56, 0, 4));
            check.same("6 without, 11 with a lie", 65L, x.weightBehind(7, 56, 1, 4));
            check.same("5 without, 12 with a lie", 57L, x.weightBehind(7, 56, 2, 4));
            LyingScale y = Fixtures.busy();
            String before = Fixtures.seen(y);
            y.weightBehind(1, 2, 0, 20);
            check.same("nothing changes", before, Fixtures.seen(y));
        });
        says(17, "`left`: a set of coins", () -> {
            LyingScale x = Fixtures.limited(16, 0);
            x.tell(0x00ff, 0xff00, 0);
            check.same("all of the heavy ones", 16L, x.weightBehind(0x00ff, 0xff00, 0, 0));
            check.same("one of them", 1L, x.weightBehind(0x0001, 0x0002, 0, 0));
            check.same("one of them, one of the light ones", 2L, x.weightBehind(1, 0x8000, 0, 0));
        });
        says(17, "`right`: a set of coins", () -> {
            LyingScale x = Fixtures.limited(16, 0);
            x.tell(0x00ff, 0xff00, 0);
            check.same("the sides changed", 0L, x.weightBehind(0xff00, 0x00ff, 0, 0));
            check.same("two of the light ones", 1L, x.weightBehind(0x0100, 0x0200, 1, 0));
            check.same("two of them, alike", 14L, x.weightBehind(0x0100, 0x8000, 2, 0));
        });
        says(17, "`answer`: 0 to 2", () -> {
            LyingScale x = Fixtures.limited(3, 0);
            check.same("0", 2L, x.weightBehind(1, 2, 0, 0));
            check.same("1", 2L, x.weightBehind(1, 2, 1, 0));
            check.same("2", 3L, x.weightBehind(1, 2, 2, 0));
        });
        says(17, "`weighings`: 0 to 20", () -> {
            LyingScale x = Fixtures.limited(16, 2);
            for (int w = 0; w <= 20; w++) {
                long want = 16 * (1 + 2L * w * w) + 17 * (1 + 2L * w);
                check.same("for " + w, want, x.weightBehind(255, 65280, 0, w));
            }
        });
        says(17, "Returns the weight for so many weighings, if this weighing", () -> {
            ifItWereTold();
            LyingScale x = Fixtures.told(40);
            check.due("behind a 41st", 2L * 41, () -> x.weightBehind(1, 2, 1, 20));
            check.due("behind a 41st, a lie", 2L, () -> x.weightBehind(1, 2, 2, 20));
            check.same("of no case", 0L, noCase().weightBehind(1, 2, 0, 20));
        });
        says(17, "Throws `IllegalArgumentException` if the sets are not those of a weighing", () -> {
            Fixtures.weighings(check, "weightBehind", x -> { },
                    (x, left, right) -> x.weightBehind(left, right, 0, 5));
            Fixtures.range(check, "weightBehind(1, 2, .., 0)", 0, 2, Fixtures.ARGUMENT,
                    Fixtures::busy, (x, answer) -> x.weightBehind(1, 2, answer, 0));
            Fixtures.range(check, "weightBehind(1, 2, 0, ..)", 0, 20, Fixtures.ARGUMENT,
                    Fixtures::busy, (x, w) -> x.weightBehind(1, 2, 0, w));
        });
    }

    private static void ifItWereTold() {
        int[][] pairs = {{1, 2}, {3, 12}, {24, 6}, {17, 10}};
        for (int limit = 0; limit <= 2; limit++) {
            for (int[] pair : pairs) {
                for (int answer = 0; answer <= 2; answer++) {
                    LyingScale x = Fixtures.busy();
                    x.setLimit(limit);
                    long behind = x.weightBehind(pair[0], pair[1], answer, 6);
                    x.tell(pair[0], pair[1], answer);
                    check.same("the weight then", x.weight(6), behind);
                }
            }
        }
    }

    private static long badness(LyingScale x, int g, int w) {
        long worst = -1;
        for (int answer = 0; answer <= 2; answer++) {
            int left = 0;
            int right = 0;
            for (int coin = 0; coin < g; coin++) {
                left += 1 << coin;
                right += 1 << g + coin;
            }
            worst = Math.max(worst, x.weightBehind(left, right, answer, w));
        }
        return worst;
    }

    private static int leastBad(LyingScale x, int w) {
        int best = 1;
        for (int g = 2; g <= x.value(0) / 2; g++) {
            if (badness(x, g, w) < badness(x, best, w)) {
                best = g;
            }
        }
        return best;
    }

    private static void bestGroup() {
        says(18, "Finds a good weighing of groups.", () -> {
            check.same("8 coins, no lies: 2 * g, 2 * g, 17 - 4 * g", 3,
                    Fixtures.limited(8, 0).bestGroup(0));
            check.same("16 coins, no lies: 2 * g, 2 * g, 33 - 4 * g", 6,
                    Fixtures.limited(16, 0).bestGroup(3));
            LyingScale x = Fixtures.busy();
            String before = Fixtures.seen(x);
            x.bestGroup(20);
            check.same("nothing changes", before, Fixtures.seen(x));
        });
        says(18, "For each g from 1 to half of the number of coins", () -> {
            eachGroup();
            check.same("two coins: 1 alone", 1, Fixtures.coins(2).bestGroup(20));
            check.same("three coins: 1 alone", 1, Fixtures.coins(3).bestGroup(20));
            LyingScale x = Fixtures.limited(4, 0);
            x.tell(1, 2, 2);
            check.same("half of four coins", 2, x.bestGroup(3));
            LyingScale y = Fixtures.limited(5, 0);
            y.tell(1, 2, 2);
            y.tell(1, 16, 2);
            check.same("half of five coins", 2, y.bestGroup(3));
            worstAnswers();
        });
        says(18, "`weighings`: the number of weighings for which weights are told, 0 to 20", () -> {
            LyingScale x = new LyingScale();
            check.same("0: all are as bad", 1, x.bestGroup(0));
            check.same("4", 3, x.bestGroup(4));
            check.same("20", 3, x.bestGroup(20));
            for (int w = 0; w <= 20; w++) {
                LyingScale y = Fixtures.limited(7, 2);
                y.tell(3, 12, 1);
                check.same("for " + w, leastBad(y, w), y.bestGroup(w));
            }
        });
        says(18, "Returns the g with the least badness, of several the lowest one.", () -> {
            check.same("no case: all are as bad", 1, noCase().bestGroup(20));
            LyingScale x = Fixtures.limited(12, 0);
            // 2 * g, 2 * g and 25 - 4 * g: 21, 17, 13, 9, 10, 12
            check.same("neither the first nor the last", 4, x.bestGroup(0));
            LyingScale y = Fixtures.limited(5, 0);
            // 7 or 4 for g of 1, 4 for g of 2
            check.same("the badness is 7, 4", 2, y.bestGroup(0));
            LyingScale z = Fixtures.limited(10, 0);
            // 2 * g, 2 * g and 21 - 4 * g: 17, 13, 9, 8, 10
            check.same("the badness is 17, 13, 9, 8, 10", 4, z.bestGroup(0));
            sameBadness();
        });
        says(18, "Throws `IllegalArgumentException` if weighings is out of range", () -> {
            Fixtures.range(check, "bestGroup", 0, 20, Fixtures.ARGUMENT, Fixtures::busy,
                    (x, w) -> x.bestGroup(w));
            Fixtures.range(check, "bestGroup of no case", 0, 20, Fixtures.ARGUMENT,
                    BoundsTest::noCase, (x, w) -> x.bestGroup(w));
        });
    }

    private static void eachGroup() {
        for (int coins = 2; coins <= 16; coins++) {
            for (int limit = 0; limit <= 2; limit++) {
                for (int told = 0; told <= 2; told++) {
                    LyingScale x = Fixtures.limited(coins, limit);
                    x.tell(1, 1 << coins - 1, told);
                    check.same("of " + coins + " coins", leastBad(x, 5), x.bestGroup(5));
                }
            }
        }
    }

    // Behind each answer of a against b, the same weighing again, a g of 1, leaves all behind it.
    private static void worstAnswers() {
        for (int answer = 0; answer <= 2; answer++) {
            LyingScale x = Fixtures.limited(4, 0);
            x.tell(1, 2, answer);
            check.same("the answer " + answer + " is the worst", 2, x.bestGroup(0));
        }
    }

    private static void sameBadness() {
        LyingScale x = Fixtures.limited(8, 0);
        x.tell(64, 128, 2);
        // 13 cases: none, a to f; the answers 0, 1, 2 leave 2 2 9, 4 4 5, 6 6 1, 6 6 1
        check.same("g of 2: 5", 5L, badness(x, 2, 0));
        check.same("g of 3: 6", 6L, badness(x, 3, 0));
        check.same("g of 4: 6", 6L, badness(x, 4, 0));
        check.same("of 9, 5, 6, 6", 2, x.bestGroup(0));
        LyingScale y = Fixtures.limited(8, 0);
        y.tell(3, 12, 0);
        // a, b heavier or c, d lighter: the answers 0, 1, 2 leave 1 1 2, 4 0 0, 3 1 0, 2 2 0
        for (int g = 1; g <= 4; g++) {
            check.same("badness of " + g, new long[] {2, 4, 3, 2}[g - 1], badness(y, g, 0));
        }
        check.same("the lowest of two", 1, y.bestGroup(0));
    }

    private static void teaches() {
        says(19, "Tells whether a weighing can teach something", () -> {
            LyingScale x = Fixtures.limited(8, 0);
            check.same("at first", true, x.teaches(1, 2));
            x.tell(3, 12, 0);
            check.same("good coins", false, x.teaches(16, 32));
            check.same("one that may be false", true, x.teaches(1, 16));
            check.same("one that may be false, right", true, x.teaches(16, 4));
            check.same("the same weighing", false, x.teaches(3, 12));
            check.same("the same weighing, sides changed", false, x.teaches(12, 3));
            LyingScale y = Fixtures.limited(8, 1);
            y.tell(3, 12, 0);
            check.same("with a lie it can", true, y.teaches(3, 12));
            y.tell(3, 12, 0);
            check.same("no more", false, y.teaches(3, 12));
            y.setLimit(2);
            check.same("with two lies it can", true, y.teaches(3, 12));
        });
        says(19, "`left`: a set of coins", () -> {
            LyingScale x = oneOf(8);
            check.same("d, heavier or lighter, is there", true, x.teaches(0b1001, 0b110));
            check.same("d is not there", false, x.teaches(0b10001, 0b110));
        });
        says(19, "`right`: a set of coins", () -> {
            LyingScale x = oneOf(8);
            check.same("d, heavier or lighter, is there", true, x.teaches(0b110, 0b1001));
            check.same("d is not there", false, x.teaches(0b110, 0b10001));
        });
        says(19, "Returns whether it can.", () -> {
            LyingScale x = Fixtures.limited(8, 0);
            x.tell(1, 2, 0);
            check.due("two cases, different answers", true, () -> x.teaches(1, 4));
            check.due("two cases, the same answer", false, () -> x.teaches(1, 2));
            x.tell(1, 4, 0);
            check.due("one case", false, () -> x.teaches(1, 2));
            check.due("no case", false, () -> noCase().teaches(1, 2));
            noneOrOne();
            LyingScale y = Fixtures.limited(16, 0);
            y.tell(0x007f, 0x3f80, 2);
            check.due("the first and the last case that are left", true,
                    () -> y.teaches(1, 0x8000));
            LyingScale z = Fixtures.busy();
            String before = Fixtures.seen(z);
            z.teaches(1, 2);
            check.same("nothing changes", before, Fixtures.seen(z));
        });
        says(19, "Throws `IllegalArgumentException` if the sets are not those of a weighing",
                () -> Fixtures.weighings(check, "teaches", x -> { }, LyingScale::teaches));
    }

    // Only the cases 0 and 1 are left: case 0 counts as each other case does.
    private static void noneOrOne() {
        LyingScale x = Fixtures.coins(4);
        x.tell(1, 2, 0);
        x.tell(2, 4, 2);
        x.tell(2, 8, 2);
        x.tell(1, 4, 2);
        check.same("two cases", 2, x.value(3));
        check.same("the first one", 0, x.leftCase(0));
        check.same("the second one", 1, x.leftCase(1));
        check.same("a, left", true, x.teaches(1, 2));
        check.same("a, right", true, x.teaches(8, 1));
        check.same("without a", false, x.teaches(2, 4));
    }

    /** The given set of one coin of a to g is false, or none is; the others are good. */
    private static LyingScale oneOf(int coin) {
        LyingScale x = Fixtures.limited(8, 0);
        for (int other = 0; other < 8; other++) {
            if (1 << other != coin && other != 7) {
                x.tell(1 << other, 128, 2);
            }
        }
        return x;
    }
}
