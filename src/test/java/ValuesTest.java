/**
 * 'Terms', what is reckoned with values: the tests of parts, the guards and the expressions, with
 * their boundary cases, each under the words of the document that name it.
 */
public final class ValuesTest {
    private static final int LEAST = Integer.MIN_VALUE;
    private static final int MOST = Integer.MAX_VALUE;
    private static final int[] EDGES = {LEAST, LEAST + 1, -256, -2, -1, 0, 1, 2, 3, 255, 256, 1 << 30, MOST - 1, MOST};

    public static void main(String[] args) {
        Due.run(
                ValuesTest::testAlways,
                ValuesTest::testEqual,
                ValuesTest::testLess,
                ValuesTest::testNotLess,
                ValuesTest::testBitInCommon,
                ValuesTest::guardAlways,
                ValuesTest::guardRising,
                ValuesTest::guardAllEqual,
                ValuesTest::guardNoTwoEqual,
                ValuesTest::guardSumAtMost,
                ValuesTest::guardSumDivided,
                ValuesTest::guardSumsDoNotWrap,
                ValuesTest::guardAtFirst,
                ValuesTest::expressionNumber,
                ValuesTest::expressionPlus,
                ValuesTest::expressionTimes,
                ValuesTest::expressionSum,
                ValuesTest::expressionGreatest,
                ValuesTest::expressionsWrap,
                ValuesTest::expressionsThatLookAtNoPart,
                ValuesTest::expressionsOfPartsThatCameLater);
    }

    // ---- tests ----

    private static boolean passes(int test, int n, int v) {
        JoinVessel x = Vessels.withChannels();
        x.reaction();
        x.part(0, 0, test, n);
        x.seal();
        x.put(0, v);
        return x.enabled() == 1;
    }

    /** As passes, with a name that tells what was asked. */
    private static void duePass(int test, int n, int v, boolean want) {
        Due.due("test " + test + ", n " + n + ", value " + v, passes(test, n, v), want);
    }

    private static void testAlways() {
        Due.sentence("that a value v passes: 0 always");
        for (int n : EDGES) {
            for (int v : EDGES) {
                duePass(0, n, v, true);
            }
        }
    }

    private static void testEqual() {
        Due.sentence("1 if v = n");
        duePass(1, 5, 4, false);
        duePass(1, 5, 5, true);
        duePass(1, 5, 6, false);
        duePass(1, 5, -5, false);
        for (int i = 0; i < EDGES.length; i++) {
            for (int j = 0; j < EDGES.length; j++) {
                duePass(1, EDGES[i], EDGES[j], i == j);
            }
        }
    }

    private static void testLess() {
        Due.sentence("2 if v < n");
        duePass(2, 5, 4, true);
        duePass(2, 5, 5, false);
        duePass(2, 5, 6, false);
        // The edges rise, so their places tell which of two is less.
        for (int i = 0; i < EDGES.length; i++) {
            for (int j = 0; j < EDGES.length; j++) {
                duePass(2, EDGES[i], EDGES[j], j < i);
            }
        }
    }

    private static void testNotLess() {
        Due.sentence("3 if v >= n");
        duePass(3, 5, 4, false);
        duePass(3, 5, 5, true);
        duePass(3, 5, 6, true);
        for (int i = 0; i < EDGES.length; i++) {
            for (int j = 0; j < EDGES.length; j++) {
                duePass(3, EDGES[i], EDGES[j], j >= i);
            }
        }
    }

    private static void testBitInCommon() {
        Due.sentence("4 if v and n have a bit in common (both have a 1 there)");
        duePass(4, 6, 12, true);
        duePass(4, 5, 10, false);
        duePass(4, 0, 0, false);
        duePass(4, 0, -1, false);
        duePass(4, -1, 0, false);
        duePass(4, -1, 1, true);
        duePass(4, LEAST, MOST, false);
        duePass(4, LEAST, -8, true);
        for (int i = 0; i < 32; i++) {
            for (int j = 0; j < 32; j++) {
                duePass(4, 1 << i, 1 << j, i == j);
            }
            duePass(4, ~(1 << i), 1 << i, false);
            duePass(4, -1, 1 << i, true);
        }
    }

    // ---- guards ----

    /** Each part has a channel of its own, so that there is one row of messages alone. */
    private static boolean holds(int kind, int n, int... values) {
        JoinVessel x = new JoinVessel();
        x.reaction();
        for (int i = 0; i < values.length; i++) {
            x.channel(false);
            x.part(0, i, 0, 0);
        }
        x.guard(0, kind, n);
        x.seal();
        for (int i = 0; i < values.length; i++) {
            x.put(i, values[i]);
        }
        return x.enabled() == 1;
    }

    private static void guardAlways() {
        Due.sentence("it HOLDS of a value for each part: 0 always");
        Due.due("one value", holds(0, 0, LEAST), true);
        Due.due("equal values", holds(0, 0, 3, 3, 3), true);
        Due.due("falling values", holds(0, -1, 4, 3, 2, 1), true);
        Due.due("a sum beyond n", holds(0, LEAST, MOST, MOST), true);
    }

    private static void guardRising() {
        Due.sentence("1 if the value of every part but the last one is less than that of the next part");
        Due.due("one value", holds(1, 0, 5), true);
        Due.due("two, rising", holds(1, 0, 5, 6), true);
        Due.due("two, equal", holds(1, 0, 5, 5), false);
        Due.due("two, falling", holds(1, 0, 6, 5), false);
        Due.due("four, from the least to the greatest", holds(1, 0, LEAST, -1, 0, MOST), true);
        Due.due("from the greatest to the least", holds(1, 0, MOST, LEAST), false);
        Due.due("equal at first", holds(1, 0, 1, 1, 2, 3), false);
        Due.due("equal within", holds(1, 0, 1, 2, 2, 3), false);
        Due.due("equal at the end", holds(1, 0, 1, 2, 3, 3), false);
        Due.due("falling at first", holds(1, 0, 2, 1, 3, 4), false);
        Due.due("falling within", holds(1, 0, 1, 3, 2, 4), false);
        Due.due("falling at the end", holds(1, 0, 1, 2, 4, 3), false);
        Due.due("n does not matter", holds(1, LEAST, 1, 2), true);
    }

    private static void guardAllEqual() {
        Due.sentence("2 if all values are equal");
        Due.due("one value", holds(2, 0, 5), true);
        Due.due("two, equal", holds(2, 0, LEAST, LEAST), true);
        Due.due("two, not equal", holds(2, 0, 5, 6), false);
        Due.due("the greatest and the least", holds(2, 0, MOST, LEAST), false);
        Due.due("four, equal", holds(2, 0, 7, 7, 7, 7), true);
        Due.due("not the first", holds(2, 0, 8, 7, 7, 7), false);
        Due.due("not the second", holds(2, 0, 7, 8, 7, 7), false);
        Due.due("not the third", holds(2, 0, 7, 7, 8, 7), false);
        Due.due("not the last", holds(2, 0, 7, 7, 7, 8), false);
        Due.due("two pairs", holds(2, 0, 7, 7, 8, 8), false);
    }

    private static void guardNoTwoEqual() {
        Due.sentence("3 if no two of them are equal");
        Due.due("one value", holds(3, 0, 5), true);
        Due.due("two, equal", holds(3, 0, 5, 5), false);
        Due.due("two, not equal", holds(3, 0, 5, 6), true);
        Due.due("four, none equal", holds(3, 0, 4, 1, 3, 2), true);
        Due.due("the greatest and the least", holds(3, 0, MOST, LEAST, 0, -1), true);
        for (int i = 0; i < 4; i++) {
            for (int j = 0; j < i; j++) {
                int[] values = {10, 20, 30, 40};
                values[i] = values[j];
                Due.due("values " + j + " and " + i + " equal", holds(3, 0, values), false);
            }
        }
    }

    private static void guardSumAtMost() {
        Due.sentence("4 if their sum is at most n");
        Due.due("one, below", holds(4, 5, 4), true);
        Due.due("one, at most", holds(4, 5, 5), true);
        Due.due("one, beyond", holds(4, 5, 6), false);
        Due.due("four, below", holds(4, 11, 1, 2, 3, 4), true);
        Due.due("four, at most", holds(4, 10, 1, 2, 3, 4), true);
        Due.due("four, beyond", holds(4, 9, 1, 2, 3, 4), false);
        Due.due("below 0, at most", holds(4, -3, -1, -2), true);
        Due.due("below 0, beyond", holds(4, -4, -1, -2), false);
        Due.due("n the least, at most", holds(4, LEAST, LEAST), true);
        Due.due("n the least, beyond", holds(4, LEAST, LEAST, 1), false);
        Due.due("n the greatest, at most", holds(4, MOST, MOST), true);
    }

    private static void guardSumDivided() {
        Due.sentence("5 if n is not 0 and n divides their sum");
        Due.due("divides", holds(5, 3, 1, 2, 3), true);
        Due.due("does not divide", holds(5, 4, 1, 2, 3), false);
        Due.due("n = 0, sum 0", holds(5, 0, 0), false);
        Due.due("n = 0, sum 0 of two", holds(5, 0, 5, -5), false);
        Due.due("n = 0, sum 6", holds(5, 0, 6), false);
        Due.due("n = 1", holds(5, 1, 7, 6), true);
        Due.due("n = -1, the least", holds(5, -1, LEAST), true);
        Due.due("n below 0 divides", holds(5, -3, 1, 2, 3), true);
        Due.due("n below 0 does not divide", holds(5, -4, 1, 2, 3), false);
        Due.due("sum below 0 divided", holds(5, 3, -1, -2, -3), true);
        Due.due("sum below 0 not divided", holds(5, 3, -1, -3), false);
        Due.due("both below 0, divides", holds(5, -2, -1, -3), true);
        Due.due("sum 0, n the greatest", holds(5, MOST, 5, -5), true);
        Due.due("sum 0, n the least", holds(5, LEAST, 0), true);
        Due.due("n more than the sum", holds(5, 7, 6), false);
        Due.due("n the least, itself", holds(5, LEAST, LEAST), true);
        Due.due("n the least, half of it", holds(5, LEAST, 1 << 30), false);
    }

    private static void guardSumsDoNotWrap() {
        Due.sentence("Sums as in arithmetic, without wrapping, here.");
        Due.due("4, beyond the greatest int", holds(4, MOST, MOST, 1), false);
        Due.due("4, twice the greatest, wrapped -2", holds(4, 0, MOST, MOST), false);
        Due.due("4, twice the least, wrapped 0", holds(4, -1, LEAST, LEAST), true);
        Due.due("4, below the least int", holds(4, LEAST, LEAST, -1), true);
        Due.due("4, four times the least, wrapped 0", holds(4, LEAST, LEAST, LEAST, LEAST, LEAST), true);
        Due.due("4, four times the greatest, wrapped -4", holds(4, 0, MOST, MOST, MOST, MOST), false);
        Due.due("4, out and back again", holds(4, -2, MOST, MOST, LEAST, LEAST), true);
        Due.due("4, out and back again, beyond", holds(4, -3, MOST, MOST, LEAST, LEAST), false);
        // 3 divides the greatest int plus 2, but not plus 3; of the ints that these wrap to, the other one.
        Due.due("5, the greatest and 2", holds(5, 3, MOST, 2), true);
        Due.due("5, the greatest and 3", holds(5, 3, MOST, 3), false);
        Due.due("5, twice the least, wrapped 0", holds(5, 3, LEAST, LEAST), false);
        Due.due("5, four times the least, wrapped 0", holds(5, 7, LEAST, LEAST, LEAST, LEAST), false);
        Due.due("5, four times the greatest, wrapped -4", holds(5, MOST, MOST, MOST, MOST, MOST), true);
        Due.due("5, by the least int", holds(5, LEAST, MOST, 1), true);
    }

    private static void guardAtFirst() {
        Due.sentence("At first it is of kind 0.");
        JoinVessel x = Vessels.withParts(4);
        x.seal();
        int[] values = {MOST, MOST, 3, LEAST};
        for (int v : values) {
            x.put(0, v);
        }
        Due.due("no guard was made", x.enabled(), 1);
    }

    // ---- expressions ----

    /** The value that one action makes of the values, by emit and by reply, which must agree. */
    private static int result(int kind, int p, int n, int... values) {
        JoinVessel x = new JoinVessel();
        x.channel(false);
        x.channel(true);
        x.reaction();
        x.part(0, 1, 0, 0);
        for (int i = 1; i < values.length; i++) {
            x.part(0, 0, 0, 0);
        }
        Due.due("the action that sends", x.emit(0, 0, kind, p, n), true);
        Due.due("the action that answers", x.reply(0, 0, kind, p, n), true);
        x.seal();
        x.call(1, values[0]);
        for (int i = 1; i < values.length; i++) {
            x.put(0, values[i]);
        }
        Due.due("fires", x.react(1), 1);
        Due.due("sent and answered", x.value(values.length), x.answer(0));
        return x.value(values.length);
    }

    private static void expressionNumber() {
        Due.sentence("0 n");
        for (int n : EDGES) {
            Due.due("n " + n, result(0, 0, n, 7, 8), n);
        }
    }

    private static void expressionPlus() {
        Due.sentence("1 the value of part p, plus n");
        int[] values = {10, 200, 3000, 40000};
        for (int p = 0; p < 4; p++) {
            Due.due("p " + p, result(1, p, 5, values), values[p] + 5);
            Due.due("p " + p + ", n below 0", result(1, p, -5, values), values[p] - 5);
            Due.due("p " + p + ", n = 0", result(1, p, 0, values), values[p]);
        }
        Due.due("up to the greatest", result(1, 0, 1, MOST - 1), MOST);
        Due.due("down to the least", result(1, 0, -1, LEAST + 1), LEAST);
    }

    private static void expressionTimes() {
        Due.sentence("2 the value of part p, times n");
        int[] values = {10, 200, 3000, 40000};
        for (int p = 0; p < 4; p++) {
            Due.due("p " + p, result(2, p, 5, values), values[p] * 5);
            Due.due("p " + p + ", n below 0", result(2, p, -5, values), values[p] * -5);
            Due.due("p " + p + ", n = 0", result(2, p, 0, values), 0);
        }
        Due.due("down to the least", result(2, 0, -2, 1 << 30), LEAST);
    }

    private static void expressionSum() {
        Due.sentence("3 the sum of the values of all parts, plus n");
        Due.due("one", result(3, 0, 4, 1), 5);
        Due.due("two", result(3, 0, 4, 1, 10), 15);
        Due.due("three", result(3, 0, -4, 1, 10, 100), 107);
        Due.due("four", result(3, 0, 0, 1, 10, 100, 1000), 1111);
    }

    private static void expressionGreatest() {
        Due.sentence("4 the greatest of the values of all parts");
        for (int i = 0; i < 4; i++) {
            int[] values = {-9, -8, -9, -7};
            values[i] = -3;
            Due.due("part " + i, result(4, 0, 100, values), -3);
        }
        Due.due("one", result(4, 0, 100, LEAST), LEAST);
        Due.due("equal", result(4, 0, 100, 6, 6), 6);
        Due.due("the least and the greatest", result(4, 0, 100, LEAST, MOST), MOST);
        Due.due("the greatest and the least", result(4, 0, 100, MOST, LEAST), MOST);
    }

    private static void expressionsWrap() {
        Due.sentence("These wrap as ints.");
        Due.due("1, one beyond", result(1, 0, 1, MOST), LEAST);
        Due.due("1, one below", result(1, 0, -1, LEAST), MOST);
        Due.due("1, twice the greatest", result(1, 0, MOST, MOST), -2);
        Due.due("1, twice the least", result(1, 0, LEAST, LEAST), 0);
        Due.due("2, twice the greatest", result(2, 0, 2, MOST), -2);
        Due.due("2, the least by -1", result(2, 0, -1, LEAST), LEAST);
        Due.due("2, the greatest by itself", result(2, 0, MOST, MOST), 1);
        Due.due("2, beyond 32 bits", result(2, 0, 1 << 16, 1 << 16), 0);
        Due.due("2, beyond 53 bits", result(2, 0, MOST, MOST - 1), LEAST + 2);
        Due.due("3, by the values", result(3, 0, 0, MOST, 1), LEAST);
        Due.due("3, by n", result(3, 0, MOST, 1), LEAST);
        Due.due("3, four times the greatest", result(3, 0, 1, MOST, MOST, MOST, MOST), -3);
        Due.due("3, four times the least", result(3, 0, 7, LEAST, LEAST, LEAST, LEAST), 7);
        Due.due("3, out and back again", result(3, 0, -1, MOST, 1, -1), MOST - 1);
    }

    private static void expressionsThatLookAtNoPart() {
        Due.sentence("p is looked at by kinds 1 and 2 alone.");
        for (int p : new int[] {LEAST, -1, 0, 1, 2, 3, 4, 5, 256, MOST}) {
            Due.due("kind 0, p " + p, result(0, p, 77, 5, 6), 77);
            Due.due("kind 3, p " + p, result(3, p, 100, 5, 6), 111);
            Due.due("kind 4, p " + p, result(4, p, 100, 5, 6), 6);
        }
    }

    private static void expressionsOfPartsThatCameLater() {
        Due.sentence("its value is, out of the values taken by the parts");
        JoinVessel x = Vessels.withParts(1);
        x.emit(0, 1, 3, 0, 0);
        x.emit(0, 1, 4, 0, 0);
        x.emit(0, 1, 1, 0, 0);
        x.part(0, 0, 0, 0);
        x.part(0, 0, 0, 0);
        x.seal();
        x.put(0, 10);
        x.put(0, 20);
        x.put(0, 30);
        Due.due("fires", x.react(1), 1);
        Due.due("the sum of all", x.value(3), 60);
        Due.due("the greatest of all", x.value(4), 30);
        Due.due("part 0 alone", x.value(5), 10);
    }
}
