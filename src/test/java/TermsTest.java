import java.util.ArrayList;
import java.util.List;
import java.util.function.Consumer;
import java.util.function.Supplier;

/** Each sentence of the document's Terms by itself. */
public final class TermsTest {
    private static final Check check = new Check("TermsTest");
    private static Sentences terms;

    private TermsTest() {
    }

    public static void main(String[] args) {
        terms = new Sentences(check, args, "Terms");
        coinsAndCases();
        weighings();
        knowledge();
        bounds();
        hiddenCase();
        plan();
        text();
        undo();
        exceptions();
        terms.close();
    }

    private static void says(String start, Runnable test) {
        terms.says("Terms", start, test);
    }

    private static void coinsAndCases() {
        says("All numbers are whole.", TermsTest::wholeNumbers);
        says("There are 2 to 16 coins, initially 8, numbered from 0", TermsTest::coins);
        says("A case says which coin is false and how", TermsTest::cases);
        says("So there are 2 * coins + 1 cases.", TermsTest::manyCases);
    }

    private static void wholeNumbers() {
        LyingScale x = Fixtures.limited(3, 0);
        check.same("half of 3 coins is no group of 2", 1, x.bestGroup(5));
        x.begin(2);
        x.add(1, 2);
        check.same("no e between two whole ones", -1, x.bears());
    }

    private static void coins() {
        check.same("initially", 8, new LyingScale().value(0));
        for (int coins = 2; coins <= 16; coins++) {
            check.same("coins", coins, Fixtures.coins(coins).value(0));
        }
        LyingScale x = new LyingScale();
        check.refused(x, "1 coin", Fixtures.ARGUMENT, () -> x.begin(1));
        check.refused(x, "17 coins", Fixtures.ARGUMENT, () -> x.begin(17));
        for (int coin = 0; coin < 16; coin++) {
            int other = (coin + 1) % 16;
            LyingScale y = Fixtures.coins(16);
            String text = "" + (char) ('a' + coin) + '/' + (char) ('a' + other) + "=e;";
            check.same(text, 1, Fixtures.carried(y, text));
            check.same(text + " left", 1 << coin, y.weighing(0, 0));
            check.same(text + " right", 1 << other, y.weighing(0, 1));
        }
    }

    private static void cases() {
        for (int coins = 2; coins <= 16; coins++) {
            LyingScale x = Fixtures.coins(coins);
            for (int k = 0; k < coins; k++) {
                int coin = 1 << k;
                int other = 1 << (k + 1) % coins;
                String name = "coin " + k + " of " + coins;
                check.same(name + " heavier, left", 0, x.answer(2 * k + 1, coin, other));
                check.same(name + " heavier, right", 1, x.answer(2 * k + 1, other, coin));
                check.same(name + " lighter, left", 1, x.answer(2 * k + 2, coin, other));
                check.same(name + " lighter, right", 0, x.answer(2 * k + 2, other, coin));
                check.same("no coin is false", 2, x.answer(0, coin, other));
            }
        }
    }

    private static void manyCases() {
        check.same("of a new scale", 17, new LyingScale().value(3));
        for (int coins = 2; coins <= 16; coins++) {
            LyingScale x = Fixtures.coins(coins);
            int cases = 2 * coins + 1;
            check.same("cases of " + coins + " coins", cases, x.value(3));
            check.same("the last case is left", cases - 1, x.leftCase(cases - 1));
            check.same("the last case has no lies", 0, x.lies(cases - 1));
            check.refused(x, "one more", Fixtures.INDEX, () -> x.lies(cases));
        }
    }

    private static void weighings() {
        says("A weighing puts two sets of coins on the scale",
                () -> Fixtures.weighings(check, "tell", x -> { }, (x, l, r) -> x.tell(l, r, 2)));
        says("The answer is 0 if the left side is heavier", TermsTest::answers);
        says("The true answer of a weighing in a case follows", TermsTest::trueAnswers);
        says("The scale may lie at most as often as the limit tells", TermsTest::limits);
    }

    private static void answers() {
        LyingScale x = new LyingScale();
        check.same("left is heavier: a heavy coin is there", 0, x.answer(9, 0b10001, 0b1010));
        check.same("left is heavier: a light coin is opposite", 0, x.answer(8, 0b10001, 0b1010));
        check.same("right is heavier: a heavy coin is there", 1, x.answer(7, 0b10001, 0b1010));
        check.same("right is heavier: a light coin is opposite", 1, x.answer(10, 0b10001, 0b1010));
        check.same("alike: the heavy coin is not there", 2, x.answer(5, 0b10001, 0b1010));
        check.same("alike: the light coin is not there", 2, x.answer(6, 0b10001, 0b1010));
        check.same("alike: no coin is false", 2, x.answer(0, 0b10001, 0b1010));
    }

    private static void trueAnswers() {
        for (int told = 0; told <= 2; told++) {
            LyingScale x = Fixtures.coins(4);
            x.tell(1, 4, told);
            for (int number = 0; number <= 8; number++) {
                int lie = x.answer(number, 1, 4) == told ? 0 : 1;
                check.same("the answer " + told + " in case " + number, lie, x.lies(number));
            }
        }
    }

    private static void limits() {
        check.same("initially", 1, new LyingScale().value(1));
        Fixtures.range(check, "limit", 0, 2, Fixtures.ARGUMENT, LyingScale::new,
                (x, limit) -> x.setLimit(limit));
        for (int limit = 0; limit <= 2; limit++) {
            LyingScale x = Fixtures.limited(8, limit);
            check.same("the limit", limit, x.value(1));
            for (int lie = 1; lie <= limit; lie++) {
                x.tell(1, 2, 0);
                check.same("as often as the limit", 1, x.value(8));
            }
            x.tell(1, 2, 0);
            check.same("more often than the limit", 0, x.value(8));
        }
    }

    private static void knowledge() {
        says("Each case has a number of lies, 0 at first.", TermsTest::noLiesAtFirst);
        says("When a weighing and its answer are told", TermsTest::liesGrow);
        says("A case is left if its number of lies is at most the limit.", TermsTest::leftCases);
        says("At most 40 weighings are told.", TermsTest::atMostForty);
    }

    private static void noLiesAtFirst() {
        LyingScale x = new LyingScale();
        for (int number = 0; number < 17; number++) {
            check.same("new", 0, x.lies(number));
        }
        LyingScale y = Fixtures.busy();
        y.begin(16);
        for (int number = 0; number < 33; number++) {
            check.same("begun", 0, y.lies(number));
        }
    }

    private static void liesGrow() {
        LyingScale x = Fixtures.coins(3);
        int[][] rows = {{1, 2, 0}, {2, 4, 1}, {4, 1, 2}, {1, 2, 0}, {1, 2, 2}};
        int[] want = new int[7];
        for (int[] row : rows) {
            x.tell(row[0], row[1], row[2]);
            for (int number = 0; number < 7; number++) {
                want[number] += x.answer(number, row[0], row[1]) == row[2] ? 0 : 1;
                check.same("lies of " + number, want[number], x.lies(number));
            }
        }
        check.same("case 0 by hand", 3, x.lies(0));
        check.same("a heavier by hand", 3, x.lies(1));
        check.same("a lighter by hand", 5, x.lies(2));
        check.same("b heavier by hand", 4, x.lies(3));
        LyingScale y = Fixtures.told(40);
        check.same("40 lies", 40, y.lies(0));
    }

    private static void leftCases() {
        for (int limit = 0; limit <= 2; limit++) {
            LyingScale x = Fixtures.limited(3, limit);
            x.tell(1, 2, 0);
            x.tell(1, 4, 2);
            x.tell(2, 1, 0);
            List<Integer> left = new ArrayList<>();
            for (int number = 0; number < 7; number++) {
                if (x.lies(number) <= limit) {
                    left.add(number);
                }
            }
            check.same("cases left by the limit " + limit, left.size(), x.value(3));
            for (int i = 0; i < left.size(); i++) {
                check.same("left by the limit " + limit, left.get(i), x.leftCase(i));
            }
        }
        LyingScale y = Fixtures.told(2);
        check.same("two lies of case 0", 2, y.lies(0));
        y.setLimit(2);
        check.same("as many lies as the limit", 1, y.value(8));
        y.setLimit(1);
        check.same("one more", 0, y.value(8));
        y.setLimit(2);
        check.same("left again, with a higher limit", 1, y.value(8));
    }

    private static void atMostForty() {
        LyingScale x = Fixtures.told(39);
        check.same("39 are told", 39, x.value(2));
        x.tell(2, 1, 2);
        check.same("40 are told", 40, x.value(2));
        check.same("the last one", 2, x.weighing(39, 0));
        check.refused(x, "the 41st, told", Fixtures.STATE, () -> x.tell(1, 2, 0));
        x.hide(0, 0);
        check.refused(x, "the 41st, asked", Fixtures.STATE, () -> x.ask(1, 2));
        check.same("the 41st in a text", 0, Fixtures.carried(x, "a/b=l;"));
        check.same("the 41st in a text, asked", 0, Fixtures.carried(x, "a/b?;"));
        check.same("40 are told still", 40, x.value(2));
        x.forget();
        check.due("after forget", 17, () -> x.tell(1, 2, 0));
        check.same("one is told", 1, x.value(2));
    }

    private static void bounds() {
        says("For numbers w of weighings and e of lies, the volume V(w, e)", TermsTest::volumes);
        says("The weight for w weighings is the sum", TermsTest::weights);
        says("(If w more weighings are enough", TermsTest::enough);
        says("The weight behind a weighing with an answer", TermsTest::weightsBehind);
    }

    private static long volume(int w, int e) {
        long[] sums = {1, 1 + 2L * w, 1 + 2L * w + 2L * w * (w - 1)};
        return sums[e];
    }

    private static void volumes() {
        for (int e = 0; e <= 2; e++) {
            for (int coins = 2; coins <= 16; coins++) {
                LyingScale x = Fixtures.limited(coins, e);
                for (int w = 0; w <= 20; w++) {
                    check.same("V(" + w + ", " + e + ") for each case of " + coins + " coins",
                            (2 * coins + 1) * volume(w, e), x.weight(w));
                }
            }
        }
        LyingScale y = Fixtures.limited(2, 2);
        check.same("V(0, 2): the lesser one is 0", 5L, y.weight(0));
        check.same("V(1, 2): the lesser one is 1", 5L * 3, y.weight(1));
        check.same("V(2, 2): 1 + 4 + 4", 5L * 9, y.weight(2));
        check.same("V(5, 2): 1 + 10 + 40", 5L * 51, y.weight(5));
        check.same("V(20, 2): 1 + 40 + 760", 5L * 801, y.weight(20));
    }

    private static long sum(LyingScale x, int w) {
        long sum = 0;
        for (int number = 0; number < 2 * x.value(0) + 1; number++) {
            int e = x.value(1) - x.lies(number);
            sum += e < 0 ? 0 : volume(w, e);
        }
        return sum;
    }

    private static void weights() {
        for (int limit = 0; limit <= 2; limit++) {
            for (int told = 0; told <= 4; told++) {
                LyingScale x = Fixtures.limited(6, limit);
                for (int i = 0; i < told; i++) {
                    x.tell(1 << i, 32, i % 3);
                }
                for (int w : new int[] {0, 1, 2, 3, 19, 20}) {
                    check.same("weight for " + w, sum(x, w), x.weight(w));
                }
            }
        }
        check.same("no case is left", 0L, noCase().weight(20));
        LyingScale y = Fixtures.told(1);
        // a lighter and b heavier have no lie, the 15 others have one
        check.same("by hand", 2L * 7 + 15, y.weight(3));
    }

    private static LyingScale noCase() {
        LyingScale x = Fixtures.limited(8, 0);
        x.tell(1, 2, 0);
        x.tell(1, 2, 1);
        return x;
    }

    private static void enough() {
        int many = 0;
        int[][] pairs = {{1, 2}, {1, 4}, {2, 4}};
        for (int length = 0; length <= 2; length++) {
            for (int code = 0; code < Math.pow(9, length); code++) {
                List<int[]> rows = new ArrayList<>();
                for (int i = 0, rest = code; i < length; i++, rest /= 9) {
                    int[] pair = pairs[rest % 9 / 3];
                    rows.add(new int[] {pair[0], pair[1], rest % 3});
                }
                for (int w = 0; w <= 2; w++) {
                    if (isEnough(rows, w)) {
                        many++;
                        long weight = after(rows).weight(w);
                        check.same("weight " + weight + " for " + w, true,
                                weight <= Math.pow(3, w));
                    }
                }
            }
        }
        check.same("cases were met", true, many > 50);
    }

    private static LyingScale after(List<int[]> rows) {
        LyingScale x = Fixtures.limited(3, 0);
        for (int[] row : rows) {
            x.tell(row[0], row[1], row[2]);
        }
        return x;
    }

    private static boolean isEnough(List<int[]> rows, int w) {
        if (after(rows).value(3) <= 1) {
            return true;
        }
        int[][] pairs = {{1, 2}, {1, 4}, {2, 4}};
        for (int i = 0; w > 0 && i < pairs.length; i++) {
            boolean all = true;
            for (int answer = 0; answer < 3; answer++) {
                List<int[]> more = new ArrayList<>(rows);
                more.add(new int[] {pairs[i][0], pairs[i][1], answer});
                all &= isEnough(more, w - 1);
            }
            if (all) {
                return true;
            }
        }
        return false;
    }

    private static void weightsBehind() {
        for (int limit = 0; limit <= 2; limit++) {
            for (int answer = 0; answer <= 2; answer++) {
                for (int w : new int[] {0, 1, 2, 7, 20}) {
                    LyingScale x = Fixtures.limited(5, limit);
                    x.tell(3, 24, 1);
                    long behind = x.weightBehind(5, 10, answer, w);
                    x.tell(5, 10, answer);
                    check.same("behind " + answer + " for " + w, x.weight(w), behind);
                }
            }
        }
    }

    private static void hiddenCase() {
        says("A case can be hidden in the scale, and it can be set how", TermsTest::lieSets);
        says("When the scale answers a weighing", TermsTest::nextAnswers);
        says("It can lie more often than the limit tells.", TermsTest::manyLies);
    }

    private static void lieSets() {
        for (int lie = 0; lie < 30; lie++) {
            LyingScale x = new LyingScale();
            x.ask(x.hide(0, 0) + 2, 4);
            x.hide(0, 1 << lie);
            for (int n = 0; n < 30; n++) {
                if (n == 7) {
                    x.tell(1, 2, 0);
                    x.forget();
                    x.add(1, 2);
                    x.setLimit(2);
                }
                check.same("lie " + lie + ", answer " + n, n == lie ? 0 : 2, x.ask(1, 2));
                check.same("answered", n + 1, x.value(6));
            }
            check.refused(x, "number 30", Fixtures.STATE, () -> x.ask(1, 2));
        }
        LyingScale y = new LyingScale();
        y.hide(1, 0);
        y.hide(0, 0b100);
        y.ask(1, 2);
        Fixtures.carried(y, "a/b?;a/b?;a/b?;");
        check.same("answers in a text count: number 2 lies", 0, y.weighing(2, 2));
        check.same("number 1 does not", 2, y.weighing(1, 2));
        check.same("number 3 does not", 2, y.weighing(3, 2));
    }

    private static void nextAnswers() {
        for (int number = 0; number < 17; number++) {
            LyingScale x = new LyingScale();
            x.hide(number, 0b10);
            int truth = x.answer(number, 0b101, 0b1010);
            check.same("the true one of " + number, truth, x.ask(0b101, 0b1010));
            check.same("the lie of " + number, (truth + 1) % 3, x.ask(0b101, 0b1010));
        }
        LyingScale y = new LyingScale();
        y.hide(5, 7);
        check.same("1 instead of 0", 1, y.ask(4, 1));
        check.same("2 instead of 1", 2, y.ask(1, 4));
        check.same("0 instead of 2", 0, y.ask(1, 2));
    }

    private static void manyLies() {
        for (int limit = 0; limit <= 2; limit++) {
            LyingScale x = Fixtures.limited(8, limit);
            x.hide(0, 1073741823);
            for (int n = 0; n < 30; n++) {
                check.same("lie " + n + " with the limit " + limit, 0, x.ask(1, 2));
            }
            check.same("lies of the hidden case", 30, x.lies(0));
            check.same("it is not left", 0, x.value(8));
        }
    }

    private static void plan() {
        says("A plan has at most 8 weighings, numbered from 0.", TermsTest::eightPlanned);
        says("The code word of a case is the row of its true answers", TermsTest::codeWords);
        says("The distance of two cases is the number of weighings", TermsTest::distances);
    }

    private static void eightPlanned() {
        LyingScale x = new LyingScale();
        for (int n = 0; n < 8; n++) {
            check.same("number", n, x.add(1 << n % 7, 128));
            check.same("planned", n + 1, x.value(4));
        }
        check.refused(x, "a ninth", Fixtures.STATE, () -> x.add(1, 2));
        check.same("a ninth in a text", 0, Fixtures.carried(x, "a/b+;"));
    }

    private static final int[][] PLAN = {
        {1, 2}, {3, 12}, {9, 6}, {1, 8}, {4, 2}, {5, 10}, {8, 4}, {2, 1},
    };

    private static LyingScale withPlan(int weighings) {
        LyingScale x = Fixtures.coins(4);
        for (int i = 0; i < weighings; i++) {
            x.add(PLAN[i][0], PLAN[i][1]);
        }
        return x;
    }

    private static void codeWords() {
        LyingScale x = withPlan(8);
        for (int number = 0; number < 9; number++) {
            int row = 0;
            for (int n = 7; n >= 0; n--) {
                row = 3 * row + x.answer(number, PLAN[n][0], PLAN[n][1]);
            }
            check.same("the word of " + number + " is its answers", number, x.decode(row));
        }
    }

    private static void distances() {
        for (int weighings = 0; weighings <= 8; weighings++) {
            LyingScale x = withPlan(weighings);
            for (int a = 0; a < 9; a++) {
                for (int b = 0; b < 5; b++) {
                    int want = 0;
                    for (int n = 0; n < weighings; n++) {
                        want += answer(a, PLAN[n]) == answer(b, PLAN[n]) ? 0 : 1;
                    }
                    check.same(a + " and " + b + " in " + weighings, want, x.distance(a, b));
                }
            }
        }
    }

    private static int answer(int number, int[] pair) {
        return new LyingScale().answer(number, pair[0], pair[1]);
    }

    private static void text() {
        says("The text has at most 100 bytes.", TermsTest::hundredBytes);
        says("It is a sequence of orders, each terminated by a semicolon", TermsTest::orders);
        says("A coin letter must not stand twice in an order", TermsTest::lettersTwice);
        says("There are no spaces; there may be no orders.", TermsTest::noSpaces);
        says("The syntax error position is the index of the first byte", TermsTest::errors);
    }

    private static void hundredBytes() {
        LyingScale x = Fixtures.written(99);
        check.due("the 100th", 100, () -> x.append(';'));
        check.refused(x, "the 101st", Fixtures.STATE, () -> x.append(';'));
        check.same("all 20 orders are there", 8, x.carryOut());
        check.same("the length", 100, x.clearText());
    }

    private static void orders() {
        String[] texts = {"a/b=l;", "a/b=r;", "a/b=e;", "ca/bd=l;", "abc/hgf=r;", "h/a=e;"};
        int[][] want = {
            {1, 2, 0}, {1, 2, 1}, {1, 2, 2}, {5, 10, 0}, {7, 224, 1}, {128, 1, 2},
        };
        LyingScale x = new LyingScale();
        for (int i = 0; i < texts.length; i++) {
            check.same(texts[i], 1, Fixtures.carried(x, texts[i]));
            for (int what = 0; what < 3; what++) {
                check.same(texts[i] + " told", want[i][what], x.weighing(i, what));
            }
        }
        x.hide(3, 2);
        check.same("asked", 2, Fixtures.carried(x, "b/a?;ca/bd?;"));
        check.same("answered", 2, x.value(6));
        check.same("b is heavier", 0, x.weighing(6, 2));
        check.same("a lie: 2 instead of 1", 2, x.weighing(7, 2));
        check.same("told both", 8, x.value(2));
        check.same("planned", 1, Fixtures.carried(x, "ac/bd+;"));
        check.same("one weighing in the plan", 1, x.value(4));
        check.same("of abcd", 1, x.distance(0, 7));
        check.same("not of e", 0, x.distance(0, 9));
        check.same("none is told by it", 8, x.value(2));
        check.same("one after another", 3, Fixtures.carried(x, "a/b+;c/d=e;e/f?;"));
        check.same("all sixteen letters", 1,
                Fixtures.carried(Fixtures.coins(16), "abcdefgh/ijklmnop=e;"));
        check.same("a letter of no coin is a letter: the order would throw", 0,
                Fixtures.carried(new LyingScale(), "o/p=e;"));
    }

    private static void lettersTwice() {
        String[] texts = {"aa/b=l;", "ab/a=l;", "ab/cb=l;", "a/bb=l;", "aba/cde+;", "a/bcb?;"};
        int[] places = {1, 3, 4, 3, 2, 4};
        for (int i = 0; i < texts.length; i++) {
            check.same(texts[i], -10 - places[i], Fixtures.carried(new LyingScale(), texts[i]));
        }
        String[] answers = {"l/r=l;", "a/l=l;", "l/a=l;", "e/a=e;", "a/e=e;", "el/ab=l;"};
        for (String text : answers) {
            int wrong = text.charAt(2) == 'r' ? -12 : 1;
            check.same(text, wrong, Fixtures.carried(Fixtures.coins(16), text));
        }
        check.same("in two orders", 2, Fixtures.carried(new LyingScale(), "a/b=l;a/b=l;"));
        check.same("on the other side of the next order", 2,
                Fixtures.carried(new LyingScale(), "ab/cd+;dc/ba+;"));
    }

    private static void noSpaces() {
        String text = "ab/cd=l;";
        for (int place = 0; place <= text.length(); place++) {
            String spaced = text.substring(0, place) + ' ' + text.substring(place);
            check.same("'" + spaced + "'", -10 - place,
                    Fixtures.carried(new LyingScale(), spaced));
        }
        check.same("no orders", 0, new LyingScale().carryOut());
    }

    private static void errors() {
        String others = "bcdefghijklmnop";
        allowed("", "a" + others);
        allowed("a", others + "/");
        allowed("p", "a" + others.substring(0, 14) + "/");
        allowed("ab", others.substring(1) + "/");
        allowed("a/", others);
        allowed("a/b", others.substring(1) + "=?+");
        allowed("a/bc", others.substring(2) + "=?+");
        allowed("ab/c", others.substring(2) + "=?+");
        allowed("a/b=", "lre");
        allowed("l/e=", "lre");
        allowed("a/b=l", ";");
        allowed("a/b=r", ";");
        allowed("a/b=e", ";");
        allowed("a/b?", ";");
        allowed("a/b+", ";");
        allowed("a/b=l;", "a" + others);
        allowed("a/b?;", "a" + others);
        allowed("a/b+;", "a" + others);
        allowed("a/b+;b", "a" + others.substring(1) + "/");
        allowed("a/b+;c/d", "ab" + others.substring(3) + "=?+");
        allowed("abcdefgh/ijklmno", "p=?+");
        allowed("abcdefgh/ijklmnop", "=?+");
        check.same("the first one of several", -12,
                Fixtures.carried(new LyingScale(), "a//=;;"));
        check.same("behind orders", -10 - 17, Fixtures.carried(new LyingScale(),
                "a/b+;a/b=l;a/b?;a;"));
        check.same("at the byte 99", -10 - 99, Fixtures.carried(new LyingScale(),
                "a/b+;".repeat(19) + "a/b+a"));
        check.same("the end at 100", -10 - 100, Fixtures.carried(new LyingScale(),
                "a/b+;".repeat(19) + "a/bc+"));
    }

    /** Behind the start each of the bytes can stand, and no other. */
    private static void allowed(String start, String bytes) {
        int length = start.length();
        boolean ends = start.isEmpty() || start.endsWith(";");
        if (!ends) {
            check.same("'" + start + "' ends too early", -10 - length,
                    Fixtures.carried(new LyingScale(), start));
        }
        for (int value = 0; value <= 127; value++) {
            LyingScale x = Fixtures.write(new LyingScale(), start);
            x.append(value);
            boolean can = bytes.indexOf(value) >= 0;
            int got = x.carryOut();
            int early = -10 - length - 1;
            int want = !can ? -10 - length : value == ';' ? Math.max(got, 0) : early;
            check.same("'" + start + "' and then " + value, want, got);
        }
    }

    private static void undo() {
        says("Each successful call of a method whose description says", TermsTest::saves);
        says("The saved state contains everything except the text.", TermsTest::savedState);
    }

    private static void saves() {
        List<Consumer<LyingScale>> undoable = List.of(
                x -> x.begin(8), x -> x.setLimit(1), x -> x.tell(1, 2, 0), LyingScale::forget,
                x -> x.hide(0, 0), x -> x.add(1, 2), LyingScale::carryOut,
                x -> Fixtures.carried(x, "ab/c+;"));
        for (int i = 0; i < undoable.size(); i++) {
            LyingScale x = new LyingScale();
            String before = Fixtures.seen(x);
            undoable.get(i).accept(x);
            x.clearText();
            check.due("undoable " + i, 0, x::undo);
            check.same("the state from before " + i, before, Fixtures.seen(x));
        }
        LyingScale y = new LyingScale();
        y.setLimit(1);
        y.begin(8);
        y.setLimit(1);
        check.same("calls that change nothing are saved too", 3, Fixtures.saved(y));
        for (int calls = 0; calls <= 8; calls++) {
            LyingScale z = new LyingScale();
            for (int i = 0; i < calls; i++) {
                z.add(1, 2);
            }
            int want = Math.min(calls, 4);
            check.same("saved by " + calls + " calls", want, Fixtures.saved(z));
            check.same("the oldest was dropped first", calls - want, z.value(4));
        }
        readsSaveNothing();
    }

    private static void readsSaveNothing() {
        LyingScale x = new LyingScale();
        x.lies(0);
        x.answer(0, 1, 2);
        x.leftCase(0);
        x.value(0);
        x.weight(1);
        x.bound();
        x.weightBehind(1, 2, 0, 1);
        x.bestGroup(1);
        x.teaches(1, 2);
        x.distance(0, 1);
        x.leastDistance();
        x.bears();
        x.decode(0);
        x.share();
        x.digest();
        Check.outcome(() -> x.weighing(0, 0));
        Check.outcome(() -> x.removeLast());
        Check.outcome(() -> x.begin(1));
        Check.outcome(() -> x.ask(1, 2));
        Check.outcome(() -> x.undo());
        x.append('a');
        x.carryOut();
        x.clearText();
        check.refused(x, "nothing is saved", Fixtures.STATE, x::undo);
    }

    private static void savedState() {
        List<String> want = Fixtures.everything(Fixtures::busy);
        List<String> got = Fixtures.everything(() -> {
            LyingScale x = Fixtures.busy();
            x.begin(16);
            x.setLimit(0);
            x.undo();
            x.undo();
            return x;
        });
        // Two calls have dropped two of the four states that were saved before.
        check.same("all but the saved states", tail(want.get(0)), tail(got.get(0)));
        LyingScale y = Fixtures.written(3);
        y.setLimit(0);
        y.append('e');
        y.undo();
        check.same("the text is not saved", 4, y.clearText());
        y.setLimit(0);
        y.undo();
        check.same("the empty text stays empty", 0, y.clearText());
    }

    // The digests tell the number of the saved states too.
    private static String tail(String row) {
        return row.replaceAll("-?\\d{9,}", "digest");
    }

    private static void exceptions() {
        says("A call that throws an exception changes nothing.", TermsTest::nothingChanges);
        says("If several exceptions apply, the one that is listed first", TermsTest::orderOfThem);
        says("The constants: `NONE = -1`: There is no such thing.",
                () -> check.same("NONE", -1, LyingScale.NONE));
    }

    private static void nothing(String what, String exception, Supplier<LyingScale> ready,
            Consumer<LyingScale> call) {
        List<String> want = Fixtures.everything(ready);
        List<String> got = Fixtures.everything(() -> {
            LyingScale x = ready.get();
            check.due(what, "throws." + exception, () -> {
                call.accept(x);
                return "";
            });
            return x;
        });
        for (int i = 0; i < want.size(); i++) {
            check.same(what + " changes nothing", want.get(i), got.get(i));
        }
    }

    private static void nothingChanges() {
        Supplier<LyingScale> busy = Fixtures::busy;
        nothing("begin", Fixtures.ARGUMENT, busy, x -> x.begin(17));
        nothing("setLimit", Fixtures.ARGUMENT, busy, x -> x.setLimit(3));
        nothing("tell", Fixtures.ARGUMENT, busy, x -> x.tell(1, 2, 3));
        nothing("tell of no weighing", Fixtures.ARGUMENT, busy, x -> x.tell(1, 1, 0));
        nothing("a 41st tell", Fixtures.STATE, () -> Fixtures.told(40), x -> x.tell(1, 2, 0));
        nothing("hide", Fixtures.INDEX, busy, x -> x.hide(11, 1));
        nothing("hide with lies", Fixtures.ARGUMENT, busy, x -> x.hide(1, -1));
        nothing("ask", Fixtures.ARGUMENT, busy, x -> x.ask(1, 32));
        nothing("ask of no case", Fixtures.STATE, LyingScale::new, x -> x.ask(1, 2));
        nothing("a 31st ask", Fixtures.STATE, () -> Fixtures.asked(30), x -> x.ask(1, 2));
        nothing("add", Fixtures.ARGUMENT, busy, x -> x.add(3, 4));
        nothing("a 9th add", Fixtures.STATE, () -> Fixtures.planned(8), x -> x.add(1, 2));
        nothing("removeLast", Fixtures.STATE, () -> Fixtures.told(3), LyingScale::removeLast);
        nothing("lies", Fixtures.INDEX, busy, x -> x.lies(11));
        nothing("answer", Fixtures.INDEX, busy, x -> x.answer(11, 1, 2));
        nothing("answer of no weighing", Fixtures.ARGUMENT, busy, x -> x.answer(0, 0, 0));
        nothing("leftCase", Fixtures.INDEX, busy, x -> x.leftCase(11));
        nothing("weighing", Fixtures.INDEX, busy, x -> x.weighing(3, 0));
        nothing("weighing of what", Fixtures.ARGUMENT, busy, x -> x.weighing(0, 3));
        nothing("value", Fixtures.ARGUMENT, busy, x -> x.value(9));
        nothing("weight", Fixtures.ARGUMENT, busy, x -> x.weight(21));
        nothing("weightBehind", Fixtures.ARGUMENT, busy, x -> x.weightBehind(1, 2, 3, 0));
        nothing("bestGroup", Fixtures.ARGUMENT, busy, x -> x.bestGroup(-1));
        nothing("teaches", Fixtures.ARGUMENT, busy, x -> x.teaches(1, 3));
        nothing("distance", Fixtures.INDEX, busy, x -> x.distance(0, 11));
        nothing("decode", Fixtures.ARGUMENT, busy, x -> x.decode(9));
        nothing("append", Fixtures.ARGUMENT, busy, x -> x.append(128));
        nothing("a 101st append", Fixtures.STATE, () -> Fixtures.written(100),
                x -> x.append('a'));
        nothing("undo", Fixtures.STATE, LyingScale::new, LyingScale::undo);
    }

    private static void orderOfThem() {
        LyingScale full = Fixtures.told(40);
        check.refused(full, "tell of no weighing", Fixtures.ARGUMENT, () -> full.tell(1, 1, 0));
        check.refused(full, "tell of no answer", Fixtures.ARGUMENT, () -> full.tell(1, 2, 3));
        check.refused(full, "ask with nothing right", Fixtures.ARGUMENT, () -> full.ask(0, 0));
        full.hide(0, 0);
        check.refused(full, "ask with 40 told", Fixtures.ARGUMENT, () -> full.ask(0, 0));
        LyingScale asked = Fixtures.asked(30);
        check.refused(asked, "ask with 30 answered", Fixtures.ARGUMENT, () -> asked.ask(1, 256));
        LyingScale x = new LyingScale();
        check.refused(x, "hide", Fixtures.INDEX, () -> x.hide(-1, -1));
        check.refused(x, "hide", Fixtures.INDEX, () -> x.hide(17, 1073741824));
        check.refused(x, "ask", Fixtures.ARGUMENT, () -> x.ask(1, 6));
        check.refused(x, "answer", Fixtures.INDEX, () -> x.answer(-1, 0, 0));
        check.refused(x, "answer", Fixtures.INDEX, () -> x.answer(17, 1, 1));
        check.refused(x, "weighing", Fixtures.INDEX, () -> x.weighing(0, 3));
        check.refused(x, "weighing", Fixtures.INDEX, () -> x.weighing(-1, -1));
        LyingScale planned = Fixtures.planned(8);
        check.refused(planned, "add", Fixtures.ARGUMENT, () -> planned.add(1, 1));
        LyingScale written = Fixtures.written(100);
        check.refused(written, "append", Fixtures.ARGUMENT, () -> written.append(128));
        check.refused(written, "append", Fixtures.ARGUMENT, () -> written.append(-1));
    }
}
