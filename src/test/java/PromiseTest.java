/** For each promise of the document: ordinary inputs, the edges that it names, and wrong inputs. */
public final class PromiseTest {
    private static final String ARGUMENT = "IllegalArgumentException";
    private static final String STATE = "IllegalStateException";
    private static final String INDEX = "IndexOutOfBoundsException";
    private static final int LEAST = Integer.MIN_VALUE;
    private static final int GREATEST = Integer.MAX_VALUE;

    // Pairs that are no weighing of 8 coins: empty, of different numbers of coins, with a coin in
    // common, with a coin that there is not, negative.
    private static final int[][] NO_WEIGHINGS = {
        {0, 0}, {0, 1}, {1, 0}, {1, 6}, {6, 1}, {1, 1}, {3, 6}, {1, 256}, {256, 1}, {256, 512},
        {-1, 1}, {1, -1}, {-1, -1}, {LEAST, 1}, {1, LEAST}, {GREATEST, 1}, {1, GREATEST},
    };

    private static final Check check = new Check("PromiseTest");

    private PromiseTest() {
    }

    public static void main(String[] args) {
        newObject();
        begin();
        setLimit();
        tell();
        tellToTheEnd();
        forget();
        hide();
        ask();
        askWithLies();
        askToTheEnd();
        add();
        removeLast();
        lies();
        answer();
        leftCase();
        weighing();
        value();
        weight();
        bound();
        weightBehind();
        bestGroup();
        teaches();
        distance();
        leastDistance();
        bears();
        decode();
        share();
        append();
        clearText();
        carryOutOrders();
        carryOutUpToAThrow();
        carryOutSyntax();
        carryOutUndo();
        undo();
        undoOfRows();
        undoEachMethod();
        digest();
        theTextIsNotSaved();
        check.close();
    }

    private static void values(String when, LyingScale x, int... want) {
        for (int what = 0; what < want.length; what++) {
            int w = what;
            check.due(when + ": value(" + what + ")", want[what], () -> x.value(w));
        }
    }

    private static void write(LyingScale x, String text) {
        x.clearText();
        for (int i = 0; i < text.length(); i++) {
            x.append(text.charAt(i));
        }
    }

    private static int carried(LyingScale x, String text) {
        write(x, text);
        return x.carryOut();
    }

    private static int saved(LyingScale x) {
        int count = 0;
        while (Check.outcome(x::undo).charAt(0) != 't') {
            count++;
        }
        return count;
    }

    private static void newObject() {
        LyingScale x = new LyingScale();
        values("new", x, 8, 1, 0, 17, 0, -1, 0, 255, 1);
        check.same("NONE", -1, LyingScale.NONE);
        check.due("new: clearText", 0, x::clearText);
        check.due("new: undo", "throws." + STATE, x::undo);
        LyingScale other = new LyingScale();
        other.tell(1, 2, 0);
        check.due("objects share nothing", 0, () -> x.value(2));
    }

    private static void begin() {
        LyingScale x = new LyingScale();
        for (int coins : new int[] {1, 0, -1, 17, LEAST, GREATEST}) {
            check.refused(x, "begin(" + coins + ")", ARGUMENT, () -> x.begin(coins));
        }
        x.setLimit(2);
        x.hide(3, 5);
        x.ask(1, 2);
        x.tell(1, 2, 0);
        x.add(1, 2);
        x.append('a');
        check.due("begin(2) answers the told weighings", 2, () -> x.begin(2));
        values("begin(2)", x, 2, 1, 0, 5, 0, -1, 0, 3, 1);
        for (int number = 0; number < 5; number++) {
            int n = number;
            check.due("begin: lies", 0, () -> x.lies(n));
        }
        check.due("begin: no hidden case", "throws." + STATE, () -> x.ask(1, 2));
        check.due("begin is undoable", 3, x::undo);
        values("begin undone", x, 8, 2, 2, 17, 1, 3, 1, 255, 1);
        check.due("begin keeps the text", 1, x::clearText);
        check.due("begin(16)", 2, () -> x.begin(16));
        values("begin(16)", x, 16, 1, 0, 33, 0, -1, 0, 65535, 1);
    }

    private static void setLimit() {
        LyingScale x = new LyingScale();
        for (int limit : new int[] {-1, 3, LEAST, GREATEST}) {
            check.refused(x, "setLimit(" + limit + ")", ARGUMENT, () -> x.setLimit(limit));
        }
        x.tell(1, 2, 0);
        x.tell(1, 2, 0);
        // a heavier and b lighter have no lie, a lighter, b heavier and all others have two
        check.due("setLimit(0)", 2, () -> x.setLimit(0));
        check.due("setLimit(1)", 2, () -> x.setLimit(1));
        check.due("setLimit(2)", 17, () -> x.setLimit(2));
        check.due("the limit", 2, () -> x.value(1));
        check.due("setLimit is undoable", 3, x::undo);
        check.due("the limit from before", 1, () -> x.value(1));
    }

    private static void tell() {
        LyingScale x = new LyingScale();
        for (int[] pair : NO_WEIGHINGS) {
            check.refused(x, "tell(" + pair[0] + ", " + pair[1] + ", 0)", ARGUMENT,
                    () -> x.tell(pair[0], pair[1], 0));
        }
        for (int answer : new int[] {-1, 3, LEAST, GREATEST}) {
            check.refused(x, "tell(1, 2, " + answer + ")", ARGUMENT, () -> x.tell(1, 2, answer));
        }
        x.setLimit(0);
        check.due("tell(7, 56, 0)", 6, () -> x.tell(7, 56, 0));
        check.due("tell(1, 2, 0)", 1, () -> x.tell(1, 2, 0));
        check.due("a is heavier", 1, () -> x.leftCase(0));
        check.due("tell is undoable", 2, x::undo);
        check.due("one weighing is told then", 1, () -> x.value(2));
        check.due("six cases are left then", 6, () -> x.value(3));
        check.due("tell(129, 66, 2)", 4, () -> x.tell(129, 66, 2));
        check.due("case 5, c heavier, is left", 5, () -> x.leftCase(0));
        x.begin(16);
        check.due("tell(255, 65280, 1)", 33, () -> x.tell(255, 65280, 1));
        check.due("p heavier has no lie", 0, () -> x.lies(31));
        check.due("p lighter has a lie", 1, () -> x.lies(32));
        check.due("a lighter has no lie", 0, () -> x.lies(2));
        x.begin(2);
        check.refused(x, "tell(4, 1, 0) with 2 coins", ARGUMENT, () -> x.tell(4, 1, 0));
        check.due("tell(2, 1, 2)", 5, () -> x.tell(2, 1, 2));
        check.due("case 0 has no lie", 0, () -> x.lies(0));
    }

    private static void tellToTheEnd() {
        LyingScale x = new LyingScale();
        for (int i = 0; i < 40; i++) {
            x.tell(1, 2, 1);
        }
        check.refused(x, "a 41st tell", STATE, () -> x.tell(1, 2, 0));
        check.refused(x, "a 41st tell with no answer", ARGUMENT, () -> x.tell(1, 2, 3));
        check.refused(x, "a 41st tell with no weighing", ARGUMENT, () -> x.tell(1, 3, 0));
        check.due("lies of case 0", 40, () -> x.lies(0));
        check.due("lies of a heavier", 40, () -> x.lies(1));
        check.due("lies of a lighter", 0, () -> x.lies(2));
        check.due("undo", 3, x::undo);
        check.due("tell after undo", 2, () -> x.tell(1, 2, 2));
    }

    private static void forget() {
        LyingScale x = new LyingScale();
        check.due("forget of nothing", 0, x::forget);
        check.due("forget of nothing is saved", 0, x::undo);
        x.hide(1, 1);
        x.ask(1, 2);
        x.add(3, 12);
        x.setLimit(2);
        x.tell(4, 8, 2);
        check.due("forget", 2, x::forget);
        values("forget", x, 8, 2, 0, 17, 1, 1, 1, 255, 1);
        check.due("lies are 0", 0, () -> x.lies(2));
        check.due("weighing", "throws." + INDEX, () -> x.weighing(0, 0));
        check.due("the scale goes on: its second answer is no lie", 0, () -> x.ask(1, 2));
        x.undo();
        check.due("forget is undoable", 2, x::undo);
        check.due("the weighings are back", 2, () -> x.value(2));
        check.due("the lies are back", 1, () -> x.lies(1));
    }

    private static void hide() {
        LyingScale x = new LyingScale();
        for (int number : new int[] {-1, 17, LEAST, GREATEST}) {
            check.refused(x, "hide(" + number + ", 0)", INDEX, () -> x.hide(number, 0));
            check.refused(x, "hide(" + number + ", -1)", INDEX, () -> x.hide(number, -1));
        }
        for (int set : new int[] {-1, 1073741824, LEAST, GREATEST}) {
            check.refused(x, "hide(0, " + set + ")", ARGUMENT, () -> x.hide(0, set));
        }
        check.due("hide(0, all)", -1, () -> x.hide(0, 1073741823));
        check.due("hide(16, 0)", 0, () -> x.hide(16, 0));
        check.due("the hidden case", 16, () -> x.value(5));
        x.ask(64, 128);
        check.due("one answer", 1, () -> x.value(6));
        check.due("hide(16, 3)", 16, () -> x.hide(16, 3));
        check.due("no answer since then", 0, () -> x.value(6));
        check.due("hide is undoable", 3, x::undo);
        check.due("one answer again", 1, () -> x.value(6));
        check.due("the case of before does not lie", 0, () -> x.ask(64, 128));
        x.begin(4);
        check.refused(x, "hide(9, 0) with 4 coins", INDEX, () -> x.hide(9, 0));
        check.due("hide(8, 0) with 4 coins", -1, () -> x.hide(8, 0));
    }

    private static void ask() {
        LyingScale x = new LyingScale();
        check.refused(x, "ask without a hidden case", STATE, () -> x.ask(1, 2));
        for (int[] pair : NO_WEIGHINGS) {
            check.refused(x, "ask(" + pair[0] + ", " + pair[1] + ")", ARGUMENT,
                    () -> x.ask(pair[0], pair[1]));
        }
        x.hide(5, 0);
        check.due("c is heavier, left", 0, () -> x.ask(4, 1));
        check.due("c is heavier, right", 1, () -> x.ask(1, 4));
        check.due("c is not there", 2, () -> x.ask(1, 2));
        // a lighter is left too: it makes the last answer alone a lie
        values("ask", x, 8, 1, 3, 2, 0, 5, 3, 5, 0);
        check.due("the told left set", 4, () -> x.weighing(0, 0));
        check.due("the told right set", 1, () -> x.weighing(0, 1));
        check.due("the told answer", 0, () -> x.weighing(0, 2));
        check.due("ask is undoable", 3, x::undo);
        values("ask undone", x, 8, 1, 2, 2, 0, 5, 2, 5, 0);
        x.hide(6, 0);
        check.due("c is lighter, left", 1, () -> x.ask(5, 10));
        check.due("c is lighter, right", 0, () -> x.ask(10, 5));
        x.hide(0, 0);
        check.due("no coin is false", 2, () -> x.ask(1, 4));
    }

    private static void askWithLies() {
        LyingScale x = new LyingScale();
        x.hide(1, 0b10110);
        check.due("0 is true", 0, () -> x.ask(1, 2));
        check.due("1 instead of 0", 1, () -> x.ask(1, 2));
        check.due("2 instead of 1", 2, () -> x.ask(2, 1));
        check.due("1 is true", 1, () -> x.ask(2, 1));
        check.due("0 instead of 2", 0, () -> x.ask(2, 4));
        check.due("2 is true", 2, () -> x.ask(2, 4));
        check.due("it lies more often than the limit", 3, () -> x.lies(1));
        check.due("the hidden case is not left", "throws." + INDEX, () -> x.leftCase(0));
        x.hide(0, 1);
        x.tell(1, 2, 0);
        check.due("tell is no answer of the scale", 0, () -> x.ask(1, 2));
        check.due("after the lie", 2, () -> x.ask(1, 2));
    }

    private static void askToTheEnd() {
        LyingScale x = new LyingScale();
        x.hide(0, 1 << 29);
        for (int i = 0; i < 29; i++) {
            x.ask(1, 2);
        }
        check.due("the lie number 29", 0, () -> x.ask(1, 2));
        check.refused(x, "a 31st ask", STATE, () -> x.ask(1, 2));
        check.refused(x, "a 31st ask with no weighing", ARGUMENT, () -> x.ask(1, 3));
        check.due("a 31st tell", 0, () -> x.tell(1, 2, 1) - x.value(3));
        x.hide(0, 0);
        for (int i = 0; i < 9; i++) {
            x.ask(1, 2);
        }
        check.due("40 told", 40, () -> x.value(2));
        check.refused(x, "ask with 40 told", STATE, () -> x.ask(1, 2));
        x.forget();
        check.due("ask after forget", 2, () -> x.ask(1, 2));
    }

    private static void add() {
        LyingScale x = new LyingScale();
        for (int[] pair : NO_WEIGHINGS) {
            check.refused(x, "add(" + pair[0] + ", " + pair[1] + ")", ARGUMENT,
                    () -> x.add(pair[0], pair[1]));
        }
        for (int i = 0; i < 8; i++) {
            int n = i;
            check.due("add", n, () -> x.add(1 << n, 1 << (n + 1) % 8));
        }
        check.refused(x, "a 9th add", STATE, () -> x.add(1, 2));
        check.refused(x, "a 9th add with no weighing", ARGUMENT, () -> x.add(1, 3));
        check.due("each coin is in two weighings", 2, () -> x.distance(0, 16));
        check.due("add is undoable", 3, x::undo);
        check.due("seven are planned", 7, () -> x.value(4));
        check.due("no weighing is told", 0, () -> x.value(2));
        check.due("h is in one weighing then", 1, () -> x.distance(0, 16));
    }

    private static void removeLast() {
        LyingScale x = new LyingScale();
        check.refused(x, "removeLast of nothing", STATE, x::removeLast);
        x.add(1, 2);
        x.add(1, 4);
        check.due("removeLast", 1, x::removeLast);
        check.due("the first one stays", 1, () -> x.distance(0, 3));
        check.due("the last one went", 0, () -> x.distance(0, 5));
        check.due("removeLast is undoable", 2, x::undo);
        check.due("the last one is back", 1, () -> x.distance(0, 5));
        check.due("removeLast", 1, x::removeLast);
        check.due("removeLast", 0, x::removeLast);
        check.refused(x, "removeLast of nothing again", STATE, x::removeLast);
    }

    private static void lies() {
        LyingScale x = new LyingScale();
        for (int number : new int[] {-1, 17, LEAST, GREATEST}) {
            check.refused(x, "lies(" + number + ")", INDEX, () -> x.lies(number));
        }
        x.tell(1, 2, 0);
        x.tell(4, 1, 2);
        x.tell(2, 1, 1);
        int[] want = {2, 1, 3, 2, 0, 3, 3, 2, 2, 2, 2, 2, 2, 2, 2, 2, 2};
        for (int number = 0; number < want.length; number++) {
            int n = number;
            check.due("lies(" + n + ")", want[n], () -> x.lies(n));
        }
        x.begin(3);
        check.refused(x, "lies(7) with 3 coins", INDEX, () -> x.lies(7));
        check.due("lies(6) with 3 coins", 0, () -> x.lies(6));
    }

    private static void answer() {
        LyingScale x = new LyingScale();
        for (int number : new int[] {-1, 17, LEAST, GREATEST}) {
            check.refused(x, "answer(" + number + ", ..)", INDEX, () -> x.answer(number, 1, 2));
            check.refused(x, "answer(" + number + ", 0, 0)", INDEX, () -> x.answer(number, 0, 0));
        }
        for (int[] pair : NO_WEIGHINGS) {
            check.refused(x, "answer(0, " + pair[0] + ", " + pair[1] + ")", ARGUMENT,
                    () -> x.answer(0, pair[0], pair[1]));
        }
        int[] want = {2, 0, 1, 0, 1, 1, 0, 1, 0, 2, 2, 2, 2, 2, 2, 2, 2};
        for (int number = 0; number < want.length; number++) {
            int n = number;
            check.due("answer(" + n + ", 3, 12)", want[n], () -> x.answer(n, 3, 12));
        }
        check.due("h heavier, right", 1, () -> x.answer(15, 1, 128));
        check.due("h lighter, right", 0, () -> x.answer(16, 1, 128));
        check.due("answer tells nothing", 0, () -> x.value(2));
    }

    private static void leftCase() {
        LyingScale x = new LyingScale();
        for (int index : new int[] {-1, 17, LEAST, GREATEST}) {
            check.refused(x, "leftCase(" + index + ")", INDEX, () -> x.leftCase(index));
        }
        check.due("leftCase(16)", 16, () -> x.leftCase(16));
        x.setLimit(0);
        x.tell(12, 48, 1);
        int[] want = {6, 8, 9, 11};
        for (int index = 0; index < want.length; index++) {
            int i = index;
            check.due("leftCase(" + i + ")", want[i], () -> x.leftCase(i));
        }
        check.refused(x, "leftCase(4)", INDEX, () -> x.leftCase(4));
        check.refused(x, "leftCase(-1)", INDEX, () -> x.leftCase(-1));
        x.tell(1, 2, 0);
        check.refused(x, "leftCase(0) of none", INDEX, () -> x.leftCase(0));
    }

    private static void weighing() {
        LyingScale x = new LyingScale();
        check.refused(x, "weighing(0, 0) of none", INDEX, () -> x.weighing(0, 0));
        check.refused(x, "weighing(0, 3) of none", INDEX, () -> x.weighing(0, 3));
        x.tell(7, 56, 2);
        x.tell(128, 64, 1);
        int[][] want = {{7, 56, 2}, {128, 64, 1}};
        for (int index = 0; index < 2; index++) {
            for (int what = 0; what < 3; what++) {
                int i = index;
                int w = what;
                check.due("weighing(" + i + ", " + w + ")", want[i][w], () -> x.weighing(i, w));
            }
        }
        for (int index : new int[] {-1, 2, LEAST, GREATEST}) {
            check.refused(x, "weighing(" + index + ", 0)", INDEX, () -> x.weighing(index, 0));
            check.refused(x, "weighing(" + index + ", -1)", INDEX, () -> x.weighing(index, -1));
        }
        for (int what : new int[] {-1, 3, LEAST, GREATEST}) {
            check.refused(x, "weighing(1, " + what + ")", ARGUMENT, () -> x.weighing(1, what));
        }
        x.undo();
        check.refused(x, "weighing(1, 0) undone", INDEX, () -> x.weighing(1, 0));
    }

    private static void value() {
        LyingScale x = new LyingScale();
        for (int what : new int[] {-1, 9, LEAST, GREATEST}) {
            check.refused(x, "value(" + what + ")", ARGUMENT, () -> x.value(what));
        }
        x.begin(5);
        x.setLimit(0);
        x.add(1, 2);
        x.add(1, 4);
        x.hide(7, 0);
        x.ask(4, 8);
        values("value", x, 5, 0, 1, 2, 2, 7, 1, 12, 0);
        x.hide(0, 0);
        values("hidden again", x, 5, 0, 1, 2, 2, 0, 0, 12, 0);
        x.forget();
        x.tell(3, 12, 2);
        values("coin e or none", x, 5, 0, 1, 3, 2, 0, 0, 16, 1);
        x.tell(1, 16, 0);
        values("e lighter", x, 5, 0, 2, 1, 2, 0, 0, 16, 0);
        x.tell(1, 16, 2);
        values("no case", x, 5, 0, 3, 0, 2, 0, 0, 0, 0);
    }

    private static void weight() {
        LyingScale x = new LyingScale();
        for (int w : new int[] {-1, 21, LEAST, GREATEST}) {
            check.refused(x, "weight(" + w + ")", ARGUMENT, () -> x.weight(w));
        }
        x.setLimit(2);
        // V(w, 2) = 1 + 2 * w + 2 * w * (w - 1) for each of 17 cases
        check.due("weight(0)", 17, () -> x.weight(0));
        check.due("weight(1)", 17 * 3, () -> x.weight(1));
        check.due("weight(2)", 17 * 9, () -> x.weight(2));
        check.due("weight(3)", 17 * 19, () -> x.weight(3));
        check.due("weight(20)", 17 * 801, () -> x.weight(20));
        x.tell(3, 12, 0);
        // four cases without a lie, thirteen with one
        check.due("weight(3) with lies", 4 * 19 + 13 * 7, () -> x.weight(3));
        x.tell(3, 12, 0);
        check.due("weight(3) with two lies", 4 * 19 + 13, () -> x.weight(3));
        x.tell(3, 12, 0);
        check.due("weight(3) of four", 4 * 19, () -> x.weight(3));
        x.setLimit(0);
        check.due("weight(20) without lies", 4, () -> x.weight(20));
    }

    private static void bound() {
        LyingScale x = new LyingScale();
        check.due("bound: 187 of 243", 5, x::bound);
        x.setLimit(0);
        check.due("bound: 17 of 27", 3, x::bound);
        x.begin(13);
        x.setLimit(0);
        check.due("bound: 27 of 27", 3, x::bound);
        x.begin(14);
        x.setLimit(0);
        check.due("bound: 29 of 81", 4, x::bound);
        x.tell(1, 2, 0);
        check.due("bound: 2 of 3", 1, x::bound);
        x.tell(1, 4, 0);
        check.due("bound: 1 of 1", 0, x::bound);
        x.tell(2, 4, 0);
        check.due("bound: no case", 0, x::bound);
        x.begin(16);
        x.setLimit(2);
        check.due("bound: 33 * 129 of 6561", 8, x::bound);
    }

    private static void weightBehind() {
        LyingScale x = new LyingScale();
        for (int[] pair : NO_WEIGHINGS) {
            check.refused(x, "weightBehind(" + pair[0] + ", " + pair[1] + ", 0, 0)", ARGUMENT,
                    () -> x.weightBehind(pair[0], pair[1], 0, 0));
        }
        for (int out : new int[] {-1, 3, LEAST, GREATEST}) {
            check.refused(x, "weightBehind(1, 2, " + out + ", 0)", ARGUMENT,
                    () -> x.weightBehind(1, 2, out, 0));
        }
        for (int out : new int[] {-1, 21, LEAST, GREATEST}) {
            check.refused(x, "weightBehind(1, 2, 0, " + out + ")", ARGUMENT,
                    () -> x.weightBehind(1, 2, 0, out));
        }
        check.due("six without, eleven with a lie", 6 * 9 + 11, () -> x.weightBehind(7, 56, 1, 4));
        check.due("five without, twelve with a lie", 5 * 9 + 12, () -> x.weightBehind(7, 56, 2, 4));
        check.due("nothing is told", 0, () -> x.value(2));
        x.setLimit(0);
        check.due("two are left", 2, () -> x.weightBehind(1, 2, 0, 20));
        x.setLimit(1);
        for (int i = 0; i < 40; i++) {
            x.tell(1, 2, 0);
        }
        check.due("with 40 told", 2 * 41, () -> x.weightBehind(1, 2, 0, 20));
        check.due("with 40 told, a lie", 2, () -> x.weightBehind(1, 2, 2, 20));
    }

    private static void bestGroup() {
        LyingScale x = new LyingScale();
        for (int w : new int[] {-1, 21, LEAST, GREATEST}) {
            check.refused(x, "bestGroup(" + w + ")", ARGUMENT, () -> x.bestGroup(w));
        }
        check.due("all are alike for 0 weighings: the lowest", 1, () -> x.bestGroup(0));
        check.due("bestGroup(4)", 3, () -> x.bestGroup(4));
        x.setLimit(0);
        // 2 * g, 2 * g and 17 - 4 * g cases: 13, 9, 6, 8
        check.due("bestGroup without lies", 3, () -> x.bestGroup(0));
        check.due("nothing is told", 0, () -> x.value(2));
        x.begin(2);
        check.due("two coins", 1, () -> x.bestGroup(20));
        x.begin(3);
        check.due("three coins", 1, () -> x.bestGroup(20));
        x.begin(16);
        x.setLimit(0);
        check.due("16 coins: 33 - 4 * 5 is 13, 2 * 6 is 12", 6, () -> x.bestGroup(3));
        x.begin(4);
        x.setLimit(0);
        x.tell(1, 2, 2);
        // c or d, or none: 5 cases; g of 1 tells nothing, g of 2 parts them 2, 2, 1
        check.due("the greatest g", 2, () -> x.bestGroup(3));
        // a g of 1 cannot part a heavier from b lighter, nor a lighter from b heavier
        x.forget();
        x.tell(1, 2, 0);
        check.due("the answer 0 is the worst", 2, () -> x.bestGroup(0));
        x.forget();
        x.tell(1, 2, 1);
        check.due("the answer 1 is the worst", 2, () -> x.bestGroup(0));
    }

    private static void teaches() {
        LyingScale x = new LyingScale();
        for (int[] pair : NO_WEIGHINGS) {
            check.refused(x, "teaches(" + pair[0] + ", " + pair[1] + ")", ARGUMENT,
                    () -> x.teaches(pair[0], pair[1]));
        }
        check.due("at first", true, () -> x.teaches(1, 2));
        x.setLimit(0);
        x.tell(3, 12, 0);
        check.due("good coins", false, () -> x.teaches(16, 32));
        check.due("one of them", true, () -> x.teaches(1, 16));
        check.due("the same answer", false, () -> x.teaches(3, 12));
        x.tell(1, 2, 2);
        check.due("c or d is lighter", true, () -> x.teaches(4, 8));
        check.due("left against right", false, () -> x.teaches(12, 48));
        x.tell(4, 8, 0);
        check.due("one case is left", false, () -> x.teaches(4, 8));
        x.tell(1, 2, 0);
        check.due("no case is left", false, () -> x.teaches(4, 8));
    }

    private static void distance() {
        LyingScale x = new LyingScale();
        for (int number : new int[] {-1, 17, LEAST, GREATEST}) {
            check.refused(x, "distance(" + number + ", 0)", INDEX, () -> x.distance(number, 0));
            check.refused(x, "distance(0, " + number + ")", INDEX, () -> x.distance(0, number));
        }
        check.due("without a plan", 0, () -> x.distance(0, 16));
        x.add(1, 2);
        x.add(1, 4);
        x.add(8, 1);
        check.due("distance(1, 2)", 3, () -> x.distance(1, 2));
        check.due("distance(0, 1)", 3, () -> x.distance(0, 1));
        check.due("distance(1, 4): 0 0 1 and 0 2 2", 2, () -> x.distance(1, 4));
        check.due("distance(4, 1)", 2, () -> x.distance(4, 1));
        check.due("distance(3, 6): 1 2 2 and 2 0 2", 2, () -> x.distance(3, 6));
        check.due("distance(3, 3)", 0, () -> x.distance(3, 3));
        check.due("distance(9, 0)", 0, () -> x.distance(9, 0));
        x.tell(1, 2, 0);
        check.due("told weighings do not count", 3, () -> x.distance(0, 1));
        x.begin(2);
        check.refused(x, "distance(5, 0) with 2 coins", INDEX, () -> x.distance(5, 0));
    }

    private static void leastDistance() {
        LyingScale x = new LyingScale();
        check.due("without a plan", 0, x::leastDistance);
        x.begin(2);
        x.add(1, 2);
        check.due("a heavier is as b lighter", 0, x::leastDistance);
        planOfFour(x, 3);
        check.due("three weighings", 1, x::leastDistance);
        planOfFour(x, 8);
        check.due("eight weighings", 4, x::leastDistance);
        x.setLimit(0);
        x.tell(1, 2, 0);
        check.due("cases that are not left count too", 4, x::leastDistance);
    }

    private static void planOfFour(LyingScale x, int weighings) {
        int[][] plan = {{1, 2}, {1, 4}, {2, 8}, {3, 12}, {5, 10}, {9, 6}, {4, 8}, {2, 4}};
        x.begin(4);
        for (int i = 0; i < weighings; i++) {
            x.add(plan[i][0], plan[i][1]);
        }
    }

    private static void bears() {
        LyingScale x = new LyingScale();
        check.due("least distance 0", -1, x::bears);
        int[] want = {-1, -1, -1, 0, 0, 0, 0, 1, 1};
        int[] least = {0, 0, 0, 1, 1, 2, 2, 3, 4};
        for (int weighings = 0; weighings <= 8; weighings++) {
            planOfFour(x, weighings);
            check.due("least distance of " + weighings, least[weighings], x::leastDistance);
            check.due("bears of " + weighings, want[weighings], x::bears);
        }
    }

    private static void decode() {
        LyingScale x = new LyingScale();
        check.due("no plan: all differ at none", -1, () -> x.decode(0));
        for (int answers : new int[] {1, -1, LEAST, GREATEST}) {
            check.refused(x, "decode(" + answers + ")", ARGUMENT, () -> x.decode(answers));
        }
        planOfFour(x, 8);
        check.refused(x, "decode(6561)", ARGUMENT, () -> x.decode(6561));
        check.refused(x, "decode(-1)", ARGUMENT, () -> x.decode(-1));
        check.due("all alike", 0, () -> x.decode(6560));
        check.due("all left", 1, () -> x.decode(0));
        check.due("all right", 2, () -> x.decode(3280));
        for (int number = 0; number < 9; number++) {
            int n = number;
            int word = wordOf(x, n, 8);
            check.due("the word of " + n, n, () -> x.decode(word));
            int first = word / 3 * 3 + (word + 1) % 3;
            check.due("the word of " + n + " with one lie", n, () -> x.decode(first));
        }
        check.due("several as near", -1, () -> x.decode(541));
        check.due("case 0 and case 8 are as near", -1, () -> x.decode(224));
        planOfFour(x, 1);
        check.due("two have the answer 0", -1, () -> x.decode(0));
        check.refused(x, "decode(3)", ARGUMENT, () -> x.decode(3));
    }

    private static int wordOf(LyingScale x, int number, int weighings) {
        int[][] plan = {{1, 2}, {1, 4}, {2, 8}, {3, 12}, {5, 10}, {9, 6}, {4, 8}, {2, 4}};
        int word = 0;
        for (int i = weighings - 1; i >= 0; i--) {
            word = 3 * word + x.answer(number, plan[i][0], plan[i][1]);
        }
        return word;
    }

    private static void share() {
        LyingScale x = new LyingScale();
        check.due("all", 1.0, x::share);
        x.setLimit(0);
        x.tell(7, 56, 0);
        check.due("six of seventeen", 6.0 / 17.0, x::share);
        x.tell(64, 128, 0);
        check.due("none", 0.0, x::share);
    }

    private static void append() {
        LyingScale x = new LyingScale();
        for (int value : new int[] {-1, 128, LEAST, GREATEST}) {
            check.refused(x, "append(" + value + ")", ARGUMENT, () -> x.append(value));
        }
        check.due("append(0)", 1, () -> x.append(0));
        check.due("append(127)", 2, () -> x.append(127));
        for (int length = 3; length <= 100; length++) {
            check.due("append", length, () -> x.append('a'));
        }
        check.refused(x, "a 101st byte", STATE, () -> x.append('a'));
        check.refused(x, "a 101st byte out of range", ARGUMENT, () -> x.append(128));
        check.due("append is not undoable", "throws." + STATE, x::undo);
        check.due("byte 0 is no coin", -10, x::carryOut);
    }

    private static void clearText() {
        LyingScale x = new LyingScale();
        check.due("nothing to clear", 0, x::clearText);
        write(x, "a/b+;");
        check.due("clearText", 5, x::clearText);
        check.due("it is empty", 0, x::clearText);
        check.due("clearText is not undoable", "throws." + STATE, x::undo);
        check.due("no order stays", 0, x::carryOut);
        check.due("no plan", 0, () -> x.value(4));
        write(x, "b/c+;");
        check.due("a new text", 1, x::carryOut);
    }

    private static void carryOutOrders() {
        LyingScale x = new LyingScale();
        check.due("no text", 0, x::carryOut);
        x.hide(3, 2);
        check.due("five orders", 5, () -> carried(x, "abc/def=l;ab/gh?;a/b+;hb/ca=e;b/c?;"));
        values("five orders", x, 8, 1, 4, 0, 1, 3, 2, 0, 0);
        int[][] want = {{7, 56, 0}, {3, 192, 0}, {130, 5, 2}, {2, 4, 1}};
        for (int i = 0; i < 4; i++) {
            for (int what = 0; what < 3; what++) {
                int n = i;
                int w = what;
                check.due("told " + n, want[n][w], () -> x.weighing(n, w));
            }
        }
        check.due("the plan is a/b", 1, () -> x.distance(0, 1));
        check.due("the plan is not c", 0, () -> x.distance(0, 5));
        check.due("the text stays", 35, x::clearText);
        check.due("=r", 1, () -> carried(x, "a/b=r;"));
        check.due("the answer 1", 1, () -> x.weighing(4, 2));
        x.begin(16);
        check.due("l, p, e as coins", 2, () -> carried(x, "lp/eb=l;p/e=r;"));
        check.due("l and p", 34816, () -> x.weighing(0, 0));
        check.due("e and b", 18, () -> x.weighing(0, 1));
        x.hide(0, 0);
        check.due("twenty orders", 20, () -> carried(x, "a/b?;".repeat(12) + "a/b+;".repeat(8)));
        values("twenty orders", x, 16, 1, 14, 5, 8, 0, 12, 34832, 0);
    }

    private static void carryOutUpToAThrow() {
        LyingScale x = new LyingScale();
        check.due("of different numbers", 0, () -> carried(x, "ab/c=l;a/b=l;"));
        check.due("nothing is told", 0, () -> x.value(2));
        check.due("a coin that there is not", 1, () -> carried(x, "a/b=l;i/a=l;a/b+;"));
        check.due("one is told", 1, () -> x.value(2));
        check.due("none is planned", 0, () -> x.value(4));
        check.due("no hidden case", 1, () -> carried(x, "a/b+;a/b?;a/b+;"));
        check.due("one is planned", 1, () -> x.value(4));
        check.due("a full plan", 7, () -> carried(x, "a/b+;".repeat(9)));
        x.forget();
        for (int i = 0; i < 39; i++) {
            x.tell(1, 2, 0);
        }
        check.due("full knowledge", 1, () -> carried(x, "a/b=e;a/b=e;"));
        x.hide(0, 0);
        check.due("full knowledge, asked", 0, () -> carried(x, "a/b?;"));
        x.forget();
        check.due("20 answers", 20, () -> carried(x, "a/b?;".repeat(20)));
        check.due("10 more", 10, () -> carried(x, "a/b?;".repeat(20)));
        values("30 answers", x, 8, 1, 30, 13, 8, 0, 30, 252, 1);
    }

    private static void carryOutSyntax() {
        String[] texts = {
            "a", "a/", "a/b", "a/b=", "a/b=l", "a/b?", "a/b+", "/", "a//b", "q", "A", " ", ";",
            "a;", "a=", "a/;", "a/=l;", "a/b;", "a/b=;", "a/b=x;", "a/b=a;", "a/b=ll;", "a/b??;",
            "a/b?+;", "a/b+=l;", "a/b/c", "aa", "aba", "a/a", "ab/ca", "ab/cc", "a/b+;;", "a/b+; ",
            "a/b+;a/b+;x", "a/b+;a/b=e;a", "a/b=L;", "a/q", "a/b=e ;", "`", "a/b+;q/a+;", "a\n/b",
        };
        int[] places = {
            1, 2, 3, 4, 5, 4, 4, 0, 2, 0, 0, 0, 0,
            1, 1, 2, 2, 3, 4, 4, 4, 5, 4,
            4, 4, 3, 1, 2, 2, 4, 4, 5, 5,
            10, 12, 4, 2, 5, 0, 5, 1,
        };
        LyingScale x = new LyingScale();
        for (int i = 0; i < texts.length; i++) {
            String text = texts[i];
            check.due("carryOut of '" + text + "'", -10 - places[i], () -> carried(x, text));
        }
        values("no change", x, 8, 1, 0, 17, 0, -1, 0, 255, 1);
        check.due("no syntax error is saved", "throws." + STATE, x::undo);
        check.due("a full text that ends too early", -110,
                () -> carried(x, "a/b+;".repeat(18) + "abcdefgh/i"));
        check.due("all sixteen coins", 0, () -> carried(x, "abcdefgh/ijklmnop=e;"));
        check.due("the same coins in another order", 2, () -> carried(x, "a/b+;a/b=l;"));
    }

    private static void carryOutUndo() {
        LyingScale x = new LyingScale();
        write(x, "a/b+;c/d=l;");
        check.due("carryOut", 2, x::carryOut);
        check.due("one saved state", 0, x::undo);
        values("all undone", x, 8, 1, 0, 17, 0, -1, 0, 255, 1);
        check.due("the text stays through undo", 2, x::carryOut);
        x.undo();
        x.clearText();
        check.due("no order", 0, x::carryOut);
        check.due("saved without an order", 0, x::undo);
        check.due("a throw at once", 0, () -> carried(x, "ab/c=l;"));
        check.due("saved with a throw at once", 0, x::undo);
        check.due("the state is saved before, not between", 1, () -> carried(x, "a/b+;a/b?;"));
        check.due("undo", 0, x::undo);
        check.due("no plan", 0, () -> x.value(4));
    }

    private static void undo() {
        LyingScale x = new LyingScale();
        check.refused(x, "undo of nothing", STATE, x::undo);
        for (int i = 1; i <= 6; i++) {
            x.begin(i + 2);
        }
        int[] coins = {7, 6, 5, 4};
        for (int i = 0; i < 4; i++) {
            check.due("undo", 3 - i, x::undo);
            check.same("coins", coins[i], x.value(0));
        }
        check.refused(x, "a fifth undo", STATE, x::undo);
        x.begin(9);
        x.begin(9);
        check.due("undo of a call that changed nothing", 1, x::undo);
        x.begin(10);
        x.undo();
        x.undo();
        check.same("coins at last", 4, x.value(0));
    }

    private static void undoOfRows() {
        LyingScale x = new LyingScale();
        x.tell(7, 56, 0);
        x.add(1, 2);
        x.begin(16);
        x.tell(256, 512, 1);
        x.add(4, 8);
        x.undo();
        x.undo();
        x.undo();
        int[] want = {7, 56, 0};
        for (int what = 0; what < 3; what++) {
            int w = what;
            check.due("weighing(0, " + w + ") is back", want[w], () -> x.weighing(0, w));
        }
        check.due("the plan is back", 1, () -> x.distance(0, 1));
        check.due("the later plan is gone", 0, () -> x.distance(0, 5));
    }

    private static void undoEachMethod() {
        LyingScale x = new LyingScale();
        x.value(0);
        x.lies(0);
        x.answer(0, 1, 2);
        x.leftCase(0);
        x.weight(1);
        x.weightBehind(1, 2, 0, 1);
        x.bestGroup(1);
        x.teaches(1, 2);
        x.decode(0);
        x.share();
        x.digest();
        x.append('a');
        x.clearText();
        Check.outcome(() -> x.tell(1, 1, 0));
        check.same("no saved state", 0, saved(x));
        x.begin(8);
        check.same("begin", 1, saved(x));
        x.setLimit(1);
        check.same("setLimit", 1, saved(x));
        x.tell(1, 2, 0);
        check.same("tell", 1, saved(x));
        x.forget();
        check.same("forget", 1, saved(x));
        x.hide(0, 0);
        x.ask(1, 2);
        check.same("hide and ask", 2, saved(x));
        x.add(1, 2);
        x.removeLast();
        check.same("add and removeLast", 2, saved(x));
        x.carryOut();
        check.same("carryOut", 1, saved(x));
    }

    private static void digest() {
        LyingScale x = new LyingScale();
        check.same("digest of a new object", 1794284762936909913L, x.digest());
        check.same("digest by its rule", byTheRule(x, 0, new int[0][], 0), x.digest());
        x.append('q');
        check.same("the length of the text", byTheRule(x, 1, new int[0][], 0), x.digest());
        x.setLimit(2);
        x.hide(3, 6);
        x.ask(1, 2);
        x.add(3, 12);
        x.add(4, 8);
        x.tell(16, 64, 2);
        check.same("much", byTheRule(x, 1, new int[][] {{3, 12}, {4, 8}}, 4), x.digest());
        x.undo();
        check.same("less", byTheRule(x, 1, new int[][] {{3, 12}, {4, 8}}, 3), x.digest());
        check.same("digest changes nothing", x.digest(), x.digest());
    }

    private static long byTheRule(LyingScale x, int length, int[][] plan, int saved) {
        long h = 31L * 3821L + length;
        for (int what = 0; what <= 8; what++) {
            h = 31 * h + x.value(what);
        }
        for (int i = 0; i < x.value(2); i++) {
            for (int what = 0; what <= 2; what++) {
                h = 31 * h + x.weighing(i, what);
            }
        }
        for (int number = 0; number <= 2 * x.value(0); number++) {
            h = 31 * h + x.lies(number);
        }
        for (int[] pair : plan) {
            h = 31 * h + pair[0];
            h = 31 * h + pair[1];
        }
        h = 31 * h + x.leastDistance();
        h = 31 * h + x.bound();
        h = 31 * h + x.weight(5);
        h = 31 * h + x.bestGroup(3);
        return 31 * h + saved;
    }

    private static void theTextIsNotSaved() {
        LyingScale x = new LyingScale();
        x.append('a');
        x.forget();
        x.append('/');
        x.undo();
        check.due("the text after undo", 2, x::clearText);
        x.forget();
        x.begin(4);
        x.undo();
        check.due("the cleared text after undo", 0, x::clearText);
    }
}
