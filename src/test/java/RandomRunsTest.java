/** Long runs of calls, at most 512 an object, each answered by LyingScale as by SlowScale. */
public final class RandomRunsTest {
    private static final int RUNS = 400;
    private static final int CALLS = 512;
    private static final int[] WILD = {
        -1, -2, 3, 9, 17, 21, 33, 40, 99, 128, 65536, 1 << 30, Integer.MIN_VALUE, Integer.MAX_VALUE,
    };

    private final Check check;
    private final int run;
    private final int wildness;
    private long seed;
    private int calls;
    private int coins = 8;
    private LyingScale x;
    private SlowScale y;

    private RandomRunsTest(Check check, int run) {
        this.check = check;
        this.run = run;
        wildness = run % 4 == 0 ? 4 : 40;
        seed = 7919L * run + 12345L;
    }

    public static void main(String[] args) {
        Check check = new Check("RandomRunsTest");
        for (int run = 0; run < RUNS; run++) {
            new RandomRunsTest(check, run).go();
        }
        check.close();
    }

    private int below(int bound) {
        seed = seed * 6364136223846793005L + 1442695040888963407L;
        return (int) ((seed >>> 33) % bound);
    }

    private int number(int low, int high) {
        if (below(wildness) == 0) {
            return below(2) == 0 ? WILD[below(WILD.length)] : below(2) == 0 ? low - 1 : high + 1;
        }
        return low + below(high - low + 1);
    }

    private void compare(String what, Check.Call mine, Check.Call other) {
        if (calls >= CALLS) {
            return;
        }
        calls++;
        check.same("run " + run + ", call " + calls + ", " + what, Check.outcome(other),
                Check.outcome(mine));
    }

    private void go() {
        x = new LyingScale();
        y = new SlowScale();
        if (run % 3 != 0) {
            int first = 2 + below(15);
            compare("begin(" + first + ")", () -> x.begin(first), () -> y.begin(first));
        }
        for (int i = 0; i < CALLS && calls < CALLS; i++) {
            coins = y.value(0);
            step(run % 5);
            if (below(3) == 0) {
                compare("digest()", () -> x.digest(), () -> y.digest());
            }
        }
    }

    // Some runs tell, some ask and some plan much, so that each of the full states is reached.
    private void step(int kind) {
        int die = below(100);
        if (die < 30) {
            if (kind == 0) {
                tell();
            } else if (kind == 1) {
                ask();
            } else if (kind == 2) {
                add();
            } else if (kind == 3) {
                text();
            } else {
                change();
            }
        } else if (die < 65) {
            read();
        } else if (die < 75) {
            bounds();
        } else if (die < 85) {
            codes();
        } else if (die < 95) {
            change();
        } else {
            compare("undo()", () -> x.undo(), () -> y.undo());
        }
    }

    private int[] sides() {
        if (below(wildness) == 0) {
            return new int[] {wildSide(), wildSide()};
        }
        int[] places = new int[coins];
        for (int i = 0; i < coins; i++) {
            places[i] = i;
        }
        int each = 1 + below(coins / 2);
        int[] sides = new int[2];
        for (int i = 0; i < 2 * each; i++) {
            int j = i + below(coins - i);
            int coin = places[j];
            places[j] = places[i];
            sides[i % 2] |= 1 << coin;
        }
        return sides;
    }

    private int wildSide() {
        return below(3) == 0 ? WILD[below(WILD.length)] : below(1 << coins);
    }

    private void tell() {
        int[] s = sides();
        int answer = below(3) == 0 ? number(0, 2) : 2;
        compare("tell(" + s[0] + ", " + s[1] + ", " + answer + ")",
                () -> x.tell(s[0], s[1], answer), () -> y.tell(s[0], s[1], answer));
    }

    private void ask() {
        int[] s = sides();
        compare("ask(" + s[0] + ", " + s[1] + ")", () -> x.ask(s[0], s[1]),
                () -> y.ask(s[0], s[1]));
    }

    private void add() {
        int[] s = sides();
        compare("add(" + s[0] + ", " + s[1] + ")", () -> x.add(s[0], s[1]),
                () -> y.add(s[0], s[1]));
    }

    private void hide() {
        int number = number(0, 2 * coins);
        int set = number(0, 1073741823) & (below(2) == 0 ? -1 : number(0, 1073741823));
        compare("hide(" + number + ", " + set + ")", () -> x.hide(number, set),
                () -> y.hide(number, set));
    }

    private void change() {
        switch (below(16)) {
            case 0 -> {
                int n = number(2, 16);
                if (below(3) == 0) {
                    compare("begin(" + n + ")", () -> x.begin(n), () -> y.begin(n));
                }
            }
            case 1, 2 -> {
                int n = number(0, 2);
                compare("setLimit(" + n + ")", () -> x.setLimit(n), () -> y.setLimit(n));
            }
            case 3, 4, 5 -> tell();
            case 6 -> compare("forget()", () -> x.forget(), () -> y.forget());
            case 7 -> hide();
            case 8, 9, 10 -> ask();
            case 11, 12 -> add();
            case 13 -> compare("removeLast()", () -> x.removeLast(), () -> y.removeLast());
            default -> text();
        }
    }

    private void read() {
        int[] s = sides();
        int a = number(0, 2 * coins);
        int b = number(0, 2 * coins);
        int what = number(0, 8);
        int part = number(0, 2);
        int index = number(0, Math.max(0, y.value(2) - 1));
        int left = number(0, Math.max(0, y.value(3)));
        switch (below(6)) {
            case 0 -> compare("lies(" + a + ")", () -> x.lies(a), () -> y.lies(a));
            case 1 -> compare("answer(" + a + ", " + s[0] + ", " + s[1] + ")",
                    () -> x.answer(a, s[0], s[1]), () -> y.answer(a, s[0], s[1]));
            case 2 -> compare("leftCase(" + left + ")", () -> x.leftCase(left),
                    () -> y.leftCase(left));
            case 3 -> compare("weighing(" + index + ", " + part + ")",
                    () -> x.weighing(index, part), () -> y.weighing(index, part));
            case 4 -> compare("value(" + what + ")", () -> x.value(what), () -> y.value(what));
            default -> compare("distance(" + a + ", " + b + ")", () -> x.distance(a, b),
                    () -> y.distance(a, b));
        }
    }

    private void bounds() {
        int[] s = sides();
        int w = number(0, 20);
        int answer = number(0, 2);
        switch (below(5)) {
            case 0 -> compare("weight(" + w + ")", () -> x.weight(w), () -> y.weight(w));
            case 1 -> compare("bound()", () -> x.bound(), () -> y.bound());
            case 2 -> compare("weightBehind(" + s[0] + ", " + s[1] + ", " + answer + ", " + w + ")",
                    () -> x.weightBehind(s[0], s[1], answer, w),
                    () -> y.weightBehind(s[0], s[1], answer, w));
            case 3 -> compare("bestGroup(" + w + ")", () -> x.bestGroup(w), () -> y.bestGroup(w));
            default -> compare("teaches(" + s[0] + ", " + s[1] + ")", () -> x.teaches(s[0], s[1]),
                    () -> y.teaches(s[0], s[1]));
        }
    }

    private void codes() {
        int rows = (int) Math.round(Math.pow(3, y.value(4)));
        int answers = number(0, rows - 1);
        switch (below(5)) {
            case 0 -> compare("leastDistance()", () -> x.leastDistance(), () -> y.leastDistance());
            case 1 -> compare("bears()", () -> x.bears(), () -> y.bears());
            case 2 -> compare("share()", () -> x.share(), () -> y.share());
            default -> compare("decode(" + answers + ")", () -> x.decode(answers),
                    () -> y.decode(answers));
        }
    }

    private void text() {
        if (below(3) != 0) {
            compare("clearText()", () -> x.clearText(), () -> y.clearText());
        }
        StringBuilder orders = new StringBuilder();
        int many = below(8) == 0 ? 25 : below(4);
        for (int i = 0; i < many; i++) {
            orders.append(order());
        }
        if (orders.length() > 0 && below(3) == 0) {
            spoil(orders);
        }
        for (int i = 0; i < orders.length(); i++) {
            int value = below(20 * wildness) == 0 ? number(0, 127) : orders.charAt(i);
            compare("append(" + value + ")", () -> x.append(value), () -> y.append(value));
        }
        compare("carryOut()", () -> x.carryOut(), () -> y.carryOut());
        if (below(4) == 0) {
            compare("carryOut() again", () -> x.carryOut(), () -> y.carryOut());
        }
    }

    private String order() {
        int[] s = sides();
        String[] ends = {"=l;", "=r;", "=e;", "?;", "+;"};
        String right = letters(s[1] & 65535);
        return letters(s[0] & 65535) + "/" + right + ends[below(ends.length)];
    }

    private static String letters(int set) {
        StringBuilder letters = new StringBuilder();
        for (int coin = 0; coin < 16; coin++) {
            if ((set >> coin & 1) == 1) {
                letters.insert(coin % 2 == 0 ? 0 : letters.length(), (char) ('a' + coin));
            }
        }
        return letters.toString();
    }

    private void spoil(StringBuilder orders) {
        String signs = "abcdefghijklmnopqrxyz/=?+;; lre";
        int place = below(orders.length());
        switch (below(4)) {
            case 0 -> orders.deleteCharAt(place);
            case 1 -> orders.insert(place, signs.charAt(below(signs.length())));
            case 2 -> orders.setLength(place);
            default -> orders.setCharAt(place, signs.charAt(below(signs.length())));
        }
    }
}
