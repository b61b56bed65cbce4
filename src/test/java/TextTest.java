import java.util.List;

/** Each sentence of the promises 25 to 27 by itself: the text and its orders. */
public final class TextTest {
    private static final Check check = new Check("TextTest");
    private static Sentences document;

    private TextTest() {
    }

    public static void main(String[] args) {
        document = new Sentences(check, args, "Promise 25", "Promise 26", "Promise 27");
        append();
        clearText();
        carryOut();
        document.close();
    }

    private static void says(int promise, String start, Runnable test) {
        document.says("Promise " + promise, start, test);
    }

    private static void append() {
        says(25, "Appends a byte to the text.", () -> {
            LyingScale x = new LyingScale();
            for (char sign : "a/b+;".toCharArray()) {
                x.append(sign);
            }
            check.same("in this order", 1, x.carryOut());
            Fixtures.write(x, "c/d=l;");
            check.same("behind the others", 2, x.carryOut());
            check.same("not undoable: two carried out", 2, Fixtures.saved(x));
            LyingScale y = Fixtures.written(99);
            y.append('x');
            check.same("as the last of 100", -10 - 99, y.carryOut());
        });
        says(25, "`value`: the byte, 0 to 127", () -> {
            for (int value = 0; value <= 127; value++) {
                int v = value;
                LyingScale x = new LyingScale();
                check.due("append(" + v + ")", 1, () -> x.append(v));
                int want = v >= 'a' && v <= 'p' ? -11 : -10;
                check.same("a coin letter or not: " + v, want, x.carryOut());
            }
        });
        says(25, "Returns the new length of the text.", () -> {
            LyingScale x = new LyingScale();
            for (int length = 1; length <= 100; length++) {
                int n = length;
                check.due("append", n, () -> x.append(n));
            }
            x.clearText();
            check.due("after clearText", 1, () -> x.append('a'));
        });
        says(25, "Throws `IllegalArgumentException` if value is out of range", () -> {
            Fixtures.range(check, "append", 0, 127, Fixtures.ARGUMENT, Fixtures::busy,
                    (x, value) -> x.append(value));
            LyingScale x = Fixtures.busy();
            check.refused(x, "a letter and 256", Fixtures.ARGUMENT, () -> x.append('a' + 256));
        });
        says(25, "Throws `IllegalStateException` if the text has 100 bytes", () -> {
            LyingScale x = Fixtures.written(99);
            check.due("the 100th byte", 100, () -> x.append(';'));
            check.refused(x, "the 101st byte", Fixtures.STATE, () -> x.append(';'));
            check.refused(x, "again", Fixtures.STATE, () -> x.append(0));
            x.clearText();
            check.due("an emptied text", 1, () -> x.append(';'));
        });
    }

    private static void clearText() {
        says(26, "Empties the text.", () -> {
            LyingScale x = Fixtures.written(100);
            x.clearText();
            check.same("no order", 0, x.carryOut());
            check.same("no plan", 0, x.value(4));
            check.due("it can be filled again", 1, () -> x.append('a'));
            x.clearText();
            check.same("a new text", 1, Fixtures.write(x, "a/b=l;").carryOut());
            LyingScale y = Fixtures.written(5);
            y.clearText();
            check.refused(y, "clearText is not undoable", Fixtures.STATE, y::undo);
        });
        says(26, "Returns the length that it had.", () -> {
            for (int length = 0; length <= 100; length++) {
                int n = length;
                LyingScale x = Fixtures.written(n);
                check.due("clearText", n, x::clearText);
                check.due("clearText again", 0, x::clearText);
            }
        });
    }

    private static void carryOut() {
        says(27, "Carries out the orders of the text, up to the first one that would throw", () -> {
            inTheirOrder();
            upToAThrow();
            asTheCallsDo();
        });
        says(27, "The text stays as it is.", () -> {
            LyingScale x = Fixtures.write(new LyingScale(), "a/b+;b/c?;");
            check.same("one order", 1, x.carryOut());
            x.hide(0, 0);
            check.same("the same text", 2, x.carryOut());
            check.same("its length", 10, x.clearText());
            LyingScale y = Fixtures.write(new LyingScale(), "a/b+;b");
            check.same("a syntax error", -16, y.carryOut());
            Fixtures.write(y, "/a+;");
            check.same("it goes on", 2, y.carryOut());
            check.same("its length", 10, y.clearText());
        });
        says(27, "Undoable (one saved state, also if no order is carried out)", TextTest::undoable);
        says(27, "Returns the number of orders that are carried out; -10 minus", () -> {
            for (int orders = 0; orders <= 20; orders++) {
                LyingScale x = new LyingScale();
                x.hide(0, 0);
                check.same("orders", orders, Fixtures.carried(x, "a/b?;".repeat(orders)));
            }
            errorPlaces();
            errorsChangeNothing();
        });
    }

    private static void inTheirOrder() {
        LyingScale x = new LyingScale();
        x.hide(3, 0b10);
        check.same("five orders", 5, Fixtures.carried(x, "abc/def=l;ab/gh?;a/b+;hb/ca=e;b/c?;"));
        int[][] want = {{7, 56, 0}, {3, 192, 0}, {130, 5, 2}, {2, 4, 1}};
        for (int i = 0; i < want.length; i++) {
            for (int what = 0; what < 3; what++) {
                check.same("told " + i, want[i][what], x.weighing(i, what));
            }
        }
        check.same("four are told", 4, x.value(2));
        check.same("two are answered", 2, x.value(6));
        check.same("one is planned", 1, x.value(4));
        check.same("it is a/b", 1, x.distance(0, 3));
        check.same("and no other", 0, x.distance(0, 5));
        // b heavier: lies at abc/def=l, no, at ab/gh?, no, at hb/ca=e, at the lie b/c?
        check.same("lies of the hidden case", 2, x.lies(3));
    }

    private static void upToAThrow() {
        String[] texts = {
            "ab/c=l;a/b=l;", "a/b+;a/bc+;a/b+;", "a/b=l;i/a=l;a/b=l;", "a/b=l;a/p+;a/b=l;",
            "a/b=l;a/b?;a/b=l;", "a/b+;".repeat(9), "a/b=e;a/b+;abc/d?;a/b=l;",
        };
        int[] want = {0, 1, 1, 1, 1, 8, 2};
        int[] told = {0, 0, 1, 1, 1, 0, 1};
        int[] planned = {0, 1, 0, 0, 0, 8, 1};
        for (int i = 0; i < texts.length; i++) {
            LyingScale x = new LyingScale();
            check.same(texts[i], want[i], Fixtures.carried(x, texts[i]));
            check.same(texts[i] + " told", told[i], x.value(2));
            check.same(texts[i] + " planned", planned[i], x.value(4));
        }
        LyingScale y = Fixtures.told(39);
        check.same("the 41st", 1, Fixtures.carried(y, "a/b=e;a/b=e;a/b+;"));
        check.same("40 are told", 40, y.value(2));
        check.same("nothing behind it", 0, y.value(4));
        y.hide(0, 0);
        check.same("the 41st, asked", 1, Fixtures.carried(y, "a/b+;a/b?;a/b+;"));
        check.same("not answered", 0, y.value(6));
        LyingScale z = Fixtures.asked(29);
        check.same("the 31st answer", 1, Fixtures.carried(z, "a/b?;a/b?;a/b=l;"));
        check.same("30 are answered", 30, z.value(6));
        check.same("30 are told", 30, z.value(2));
        LyingScale full = Fixtures.planned(8);
        check.same("the ninth of the plan", 1, Fixtures.carried(full, "a/b=l;a/b+;a/b=l;"));
        check.same("one is told", 1, full.value(2));
    }

    // A text does what the calls do, but for the saved states.
    private static void asTheCallsDo() {
        LyingScale x = Fixtures.coins(16);
        LyingScale y = Fixtures.coins(16);
        x.hide(30, 0b110);
        y.hide(30, 0b110);
        check.same("five orders", 5, Fixtures.carried(x, "op/ab?;o/n?;a/o?;op/ab+;hgf/cde=r;"));
        y.ask(0xc000, 3);
        y.ask(0x4000, 0x2000);
        y.ask(1, 0x4000);
        y.add(0xc000, 3);
        y.tell(0xe0, 0x1c, 1);
        x.clearText();
        check.same("the same", withoutDigest(y), withoutDigest(x));
        check.same("it goes on so", Fixtures.answers(y), Fixtures.answers(x));
    }

    private static String withoutDigest(LyingScale x) {
        return Fixtures.seen(x).replaceFirst("-?\\d+", "");
    }

    private static void undoable() {
        String[] texts = {"", "a/b+;", "a/b=l;a/b=r;c/d+;", "ab/c=l;", "a/b?;", "a/b+;".repeat(20)};
        for (String text : texts) {
            LyingScale x = Fixtures.write(new LyingScale(), text);
            String before = Fixtures.seen(x);
            x.carryOut();
            check.due("one saved state: '" + text + "'", 0, x::undo);
            check.same("the state from before", before, Fixtures.seen(x));
        }
        for (String text : List.of("a", "a/b+;a", "a/b+;;", "a/b+;a/b+; ", ";")) {
            LyingScale x = Fixtures.write(new LyingScale(), text);
            x.carryOut();
            check.refused(x, "no saved state: '" + text + "'", Fixtures.STATE, x::undo);
        }
        LyingScale y = Fixtures.planned(4);
        Fixtures.carried(y, "a/b+;a/b+;");
        check.same("the oldest is dropped", 4, Fixtures.saved(y));
        check.same("planned then", 1, y.value(4));
    }

    private static void errorPlaces() {
        String[] texts = {
            "a", "a/", "a/b", "a/b=", "a/b=l", "a/b?", "a/b+", "/", "a//b", "q", "A", " ", ";",
            "a;", "a=", "a/;", "a/=l;", "a/b;", "a/b=;", "a/b=x;", "a/b=a;", "a/b=ll;", "a/b??;",
            "a/b?+;", "a/b+=l;", "a/b/c", "aa", "aba", "a/a", "ab/ca", "ab/cc", "a/b+;;", "a/b+; ",
            "a/b+;a/b+;x", "a/b+;a/b=e;a", "a/b=L;", "a/q", "a/b=e ;", "`", "a/b+;q/a+;", "a\n/b",
        };
        int[] places = {
            1, 2, 3, 4, 5, 4, 4, 0, 2, 0, 0, 0, 0,
            1, 1, 2, 2, 3, 4, 4, 4, 5, 4,
            4, 4, 3, 1, 2, 2, 4, 4, 5, 5,
            10, 12, 4, 2, 5, 0, 5, 1,
        };
        for (int i = 0; i < texts.length; i++) {
            check.same("'" + texts[i] + "'", -10 - places[i],
                    Fixtures.carried(new LyingScale(), texts[i]));
        }
        check.same("an error behind an order that would throw", -10 - 7,
                Fixtures.carried(new LyingScale(), "ab/c=l;;"));
        check.same("a full text that ends too early", -110,
                Fixtures.carried(new LyingScale(), "a/b+;".repeat(18) + "abcdefgh/i"));
        check.same("the last byte of a full text", -109,
                Fixtures.carried(new LyingScale(), "a/b+;".repeat(18) + "abcdefg/i/"));
    }

    private static void errorsChangeNothing() {
        List<String> want = Fixtures.everything(() -> Fixtures.write(Fixtures.busy(), "x"));
        List<String> got = Fixtures.everything(() -> {
            LyingScale x = Fixtures.write(Fixtures.busy(), "x");
            check.due("the error", -10 - 21, x::carryOut);
            return x;
        });
        for (int i = 0; i < want.size(); i++) {
            check.same("nothing changes", want.get(i), got.get(i));
        }
    }
}
