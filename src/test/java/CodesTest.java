/** Each sentence of the promises 20 to 24 by itself: the plan as a code, and the share. */
public final class CodesTest {
    private static final int[][] PLAN = {
        {1, 2}, {1, 4}, {2, 8}, {3, 12}, {5, 10}, {9, 6}, {4, 8}, {2, 4},
    };
    private static final int[] LEAST = {0, 0, 0, 1, 1, 2, 2, 3, 4};

    private static final Check check = new Check("CodesTest");
    private static Sentences document;

    private CodesTest() {
    }

    public static void main(String[] args) {
        document = new Sentences(check, args, "Promise 20", "Promise 21", "Promise 22",
                "Promise 23", "Promise 24");
        distance();
        leastDistance();
        bears();
        decode();
        share();
        document.close();
    }

    private static void says(int promise, String start, Runnable test) {
        document.says("Promise " + promise, start, test);
    }

    private static LyingScale planned(int weighings) {
        LyingScale x = Fixtures.coins(4);
        for (int i = 0; i < weighings; i++) {
            x.add(PLAN[i][0], PLAN[i][1]);
        }
        return x;
    }

    /** The true answers of a case of 4 coins to the first weighings of PLAN. */
    private static int[] word(int number, int weighings) {
        LyingScale x = Fixtures.coins(4);
        int[] word = new int[weighings];
        for (int n = 0; n < weighings; n++) {
            word[n] = x.answer(number, PLAN[n][0], PLAN[n][1]);
        }
        return word;
    }

    private static int apart(int[] a, int[] b) {
        int count = 0;
        for (int n = 0; n < a.length; n++) {
            count += a[n] == b[n] ? 0 : 1;
        }
        return count;
    }

    private static int[] digits(int answers, int weighings) {
        int[] digits = new int[weighings];
        for (int n = 0, rest = answers; n < weighings; n++, rest /= 3) {
            digits[n] = rest % 3;
        }
        return digits;
    }

    private static int number(int[] digits) {
        int number = 0;
        for (int n = digits.length - 1; n >= 0; n--) {
            number = 3 * number + digits[n];
        }
        return number;
    }

    private static void distance() {
        says(20, "Returns the distance of two cases in the plan.", () -> {
            LyingScale x = new LyingScale();
            x.add(1, 2);
            x.add(1, 4);
            x.add(8, 1);
            check.same("0 0 1 and 1 1 0", 3, x.distance(1, 2));
            check.same("0 0 1 and 0 2 2", 2, x.distance(1, 4));
            check.same("2 2 2 and 2 1 2", 1, x.distance(0, 5));
            check.same("2 2 2 and 2 2 2", 0, x.distance(9, 0));
            x.tell(1, 2, 0);
            check.same("told weighings are none of the plan", 1, x.distance(0, 5));
            x.removeLast();
            check.same("0 0 and 0 2", 1, x.distance(1, 4));
        });
        says(20, "`a`: the number of a case", () -> {
            LyingScale x = planned(8);
            for (int a = 0; a < 9; a++) {
                check.same("of " + a + " and 0", apart(word(a, 8), word(0, 8)), x.distance(a, 0));
            }
        });
        says(20, "`b`: the number of a case", () -> {
            LyingScale x = planned(8);
            for (int b = 0; b < 9; b++) {
                check.same("of 8 and " + b, apart(word(8, 8), word(b, 8)), x.distance(8, b));
            }
        });
        says(20, "Returns the distance.", () -> {
            for (int weighings = 0; weighings <= 8; weighings++) {
                LyingScale x = planned(weighings);
                for (int a = 0; a < 9; a++) {
                    check.same("of a case and itself", 0, x.distance(a, a));
                    for (int b = 0; b < a; b++) {
                        int want = apart(word(a, weighings), word(b, weighings));
                        check.same("of " + a + " and " + b, want, x.distance(a, b));
                        check.same("of " + b + " and " + a, want, x.distance(b, a));
                    }
                }
            }
            LyingScale y = Fixtures.planned(8);
            check.same("the greatest", 8, y.distance(0, 15));
            check.same("the greatest: 0 and 1 at each", 8, y.distance(16, 15));
        });
        says(20, "Throws `IndexOutOfBoundsException` if there is no such case", () -> {
            for (int coins = 2; coins <= 16; coins++) {
                int n = coins;
                Fixtures.range(check, "distance(.., 0) of " + n + " coins", 0, 2 * n,
                        Fixtures.INDEX, () -> Fixtures.coins(n), (x, a) -> x.distance(a, 0));
                Fixtures.range(check, "distance(0, ..) of " + n + " coins", 0, 2 * n,
                        Fixtures.INDEX, () -> Fixtures.coins(n), (x, b) -> x.distance(0, b));
                Fixtures.range(check, "distance(.., ..) of " + n + " coins", 0, 2 * n,
                        Fixtures.INDEX, () -> Fixtures.coins(n), (x, a) -> x.distance(a, a));
            }
        });
    }

    private static void leastDistance() {
        says(21, "Returns the least distance of two different cases in the plan.", () -> {
            for (int weighings = 0; weighings <= 8; weighings++) {
                check.same("of " + weighings, LEAST[weighings], planned(weighings).leastDistance());
            }
            LyingScale x = Fixtures.coins(2);
            x.add(1, 2);
            check.same("a heavier is as b lighter", 0, x.leastDistance());
        });
        says(21, "Returns the least distance.", () -> {
            check.same("no plan", 0, new LyingScale().leastDistance());
            check.same("each coin in a weighing", 1, Fixtures.planned(7).leastDistance());
            check.same("a coin in no weighing", 0, Fixtures.planned(6).leastDistance());
            LyingScale x = planned(8);
            x.setLimit(0);
            x.tell(1, 2, 0);
            x.tell(1, 2, 1);
            check.same("cases that are not left are cases too", 4, x.leastDistance());
            x.removeLast();
            check.same("one weighing less", 3, x.leastDistance());
            x.undo();
            check.same("undone", 4, x.leastDistance());
            x.begin(4);
            check.same("no plan after begin", 0, x.leastDistance());
            LyingScale y = Fixtures.busy();
            String before = Fixtures.seen(y);
            y.leastDistance();
            check.same("nothing changes", before, Fixtures.seen(y));
            lastCases();
        });
    }

    private static void lastCases() {
        for (int coins = 5; coins <= 16; coins++) {
            LyingScale x = Fixtures.coins(coins);
            for (int[] pair : PLAN) {
                x.add(pair[0], pair[1]);
            }
            check.same("the last coins are in no weighing", 0, x.leastDistance());
        }
    }

    private static void bears() {
        says(22, "Tells how many lies the plan could bear.", () -> {
            LyingScale x = planned(7);
            check.same("the least distance is 3", 1, x.bears());
            for (int number = 0; number < 9; number++) {
                for (int n = 0; n < 7; n++) {
                    for (int step = 1; step <= 2; step++) {
                        int[] row = word(number, 7);
                        row[n] = (row[n] + step) % 3;
                        LyingScale y = planned(7);
                        check.same("a lie at " + n, number, y.decode(number(row)));
                    }
                }
            }
        });
        says(22, "Returns the greatest e for which the least distance is at least", () -> {
            int[] want = {-1, -1, -1, 0, 0, 0, 0, 1, 1};
            for (int weighings = 0; weighings <= 8; weighings++) {
                LyingScale x = planned(weighings);
                check.same("least distance " + LEAST[weighings], want[weighings], x.bears());
            }
            check.same("NONE", LyingScale.NONE, new LyingScale().bears());
            check.same("least distance 0 with a plan", -1, Fixtures.planned(6).bears());
            check.same("least distance 1", 0, Fixtures.planned(7).bears());
            for (int weighings = 1; weighings <= 8; weighings++) {
                LyingScale x = threeCoins(weighings);
                int least = x.leastDistance();
                int e = -1;
                while (least >= 2 * (e + 1) + 1) {
                    e++;
                }
                check.same("least distance " + least, e, x.bears());
            }
            check.same("least distance 5", 5, threeCoins(8).leastDistance());
            check.same("it bears 2", 2, threeCoins(8).bears());
        });
    }

    private static LyingScale threeCoins(int weighings) {
        LyingScale x = Fixtures.coins(3);
        int[][] pairs = {{1, 2}, {2, 4}, {4, 1}};
        for (int i = 0; i < weighings; i++) {
            x.add(pairs[i % 3][0], pairs[i % 3][1]);
        }
        return x;
    }

    private static void decode() {
        says(23, "Decodes answers to the weighings of the plan.", () -> {
            for (int weighings = 3; weighings <= 8; weighings++) {
                for (int number = 0; number < 9; number++) {
                    int row = number(word(number, weighings));
                    check.same("the word of " + number, number, planned(weighings).decode(row));
                }
            }
        });
        says(23, "`answers`: the answers as one number to the base 3", () -> {
            LyingScale x = Fixtures.coins(2);
            x.add(1, 2);
            x.add(1, 2);
            x.add(2, 1);
            check.same("2 2 2", 0, x.decode(2 + 3 * 2 + 9 * 2));
            // a heavier and b lighter answer 0 0 1, a lighter and b heavier 1 1 0
            check.same("0 0 1: two cases", -1, x.decode(9));
            check.same("2 2 1: case 0 has one wrong", 0, x.decode(2 + 3 * 2 + 9));
            LyingScale y = planned(3);
            // b heavier answers 1 2 0
            check.same("the first weighing is the lowest digit", 3, y.decode(1 + 3 * 2));
            // c heavier answers 2 1 2
            check.same("the third one the highest", 5, y.decode(2 + 3 + 9 * 2));
        });
        says(23, "Returns the case whose code word differs from the answers at the fewest", () -> {
            nearest();
            check.same("no plan: all differ at none", -1, new LyingScale().decode(0));
            LyingScale x = Fixtures.coins(2);
            x.add(1, 2);
            check.same("alone", 0, x.decode(2));
            check.same("a heavier, b lighter", -1, x.decode(0));
            check.same("a lighter, b heavier", -1, x.decode(1));
            x.setLimit(0);
            x.tell(1, 2, 0);
            check.same("also a case that is not left", 0, x.decode(2));
        });
        says(23, "Throws `IllegalArgumentException` if answers is negative or at least", () -> {
            int power = 1;
            for (int weighings = 0; weighings <= 8; weighings++) {
                int w = weighings;
                Fixtures.range(check, "decode of " + w, 0, power - 1, Fixtures.ARGUMENT,
                        () -> planned(w), (x, answers) -> x.decode(answers));
                power *= 3;
            }
            check.same("3 to the power of 8", 6561 * 3, power);
        });
    }

    private static void nearest() {
        for (int weighings = 0; weighings <= 6; weighings++) {
            int rows = (int) Math.round(Math.pow(3, weighings));
            LyingScale x = planned(weighings);
            int calls = 0;
            for (int answers = 0; answers < rows; answers++) {
                if (calls++ == 400) {
                    x = planned(weighings);
                    calls = 0;
                }
                int best = -1;
                int fewest = 99;
                for (int number = 0; number < 9; number++) {
                    int apart = apart(word(number, weighings), digits(answers, weighings));
                    best = apart < fewest ? number : apart == fewest ? -1 : best;
                    fewest = Math.min(apart, fewest);
                }
                check.same("decode(" + answers + ") of " + weighings, best, x.decode(answers));
            }
        }
    }

    private static void share() {
        says(24, "Returns the share of cases that are left.", () -> {
            check.same("all", 1.0, new LyingScale().share());
            LyingScale x = Fixtures.limited(8, 0);
            x.tell(1, 2, 0);
            check.same("two of 17", 2.0 / 17.0, x.share());
            x.tell(1, 2, 1);
            check.same("none", 0.0, x.share());
            x.forget();
            check.same("all again", 1.0, x.share());
        });
        says(24, "Returns the cases that are left, converted to double", () -> {
            for (int coins = 2; coins <= 16; coins++) {
                for (int limit = 0; limit <= 2; limit++) {
                    LyingScale x = Fixtures.limited(coins, limit);
                    x.tell(1, 2, 0);
                    x.tell(1, 2, 2);
                    double want = (double) x.value(3) / (double) (2 * coins + 1);
                    check.same("of " + coins + " coins", want, x.share());
                }
            }
            LyingScale y = Fixtures.busy();
            check.same("8 of 11", 8.0 / 11.0, y.share());
        });
    }
}
