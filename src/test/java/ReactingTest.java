/** Promises 12 to 15 and 21, and what tests, guards and expressions (4 to 7) do when a reaction fires. */
public final class ReactingTest {
    private static final int LEAST = Integer.MIN_VALUE;
    private static final int MOST = Integer.MAX_VALUE;

    public static void main(String[] args) {
        tests();
        guards();
        guardsOfFewParts();
        expressions();
        actionsInOrder();
        repliesGoToTheirParts();
        firstMatch();
        differentMessages();
        reactCounts();
        reactRefused();
        nextGoesRound();
        enabledIsASet();
        roomOnChannels();
        roomAfterTaking();
        fullChannelsThatNothingIsSentTo();
        roomForMessages();
        taken();
        notSealed();
        firings();
        Due.end();
    }

    private static boolean passes(int test, int n, int v) {
        JoinVessel x = Vessels.withChannels();
        x.reaction();
        x.part(0, 0, test, n);
        x.seal();
        x.put(0, v);
        return x.enabled() == 1;
    }

    private static void tests() {
        Due.due("4 test 0", passes(0, 5, 6), true);
        Due.due("4 test 1, equal", passes(1, 5, 5), true);
        Due.due("4 test 1, less", passes(1, 5, 4), false);
        Due.due("4 test 1, more", passes(1, 5, 6), false);
        Due.due("4 test 2, less", passes(2, 5, 4), true);
        Due.due("4 test 2, equal", passes(2, 5, 5), false);
        Due.due("4 test 2, more", passes(2, 5, 6), false);
        Due.due("4 test 2, far less", passes(2, MOST, LEAST), true);
        Due.due("4 test 2, least", passes(2, LEAST, LEAST), false);
        Due.due("4 test 3, less", passes(3, 5, 4), false);
        Due.due("4 test 3, equal", passes(3, 5, 5), true);
        Due.due("4 test 3, more", passes(3, 5, 6), true);
        Due.due("4 test 3, far more", passes(3, LEAST, MOST), true);
        Due.due("4 test 4, a bit", passes(4, 6, 12), true);
        Due.due("4 test 4, no bit", passes(4, 5, 10), false);
        Due.due("4 test 4, zero", passes(4, -1, 0), false);
        Due.due("4 test 4, the highest bit", passes(4, LEAST, -8), true);
        Due.due("4 test 4, not the highest bit", passes(4, LEAST, MOST), false);
    }

    /** Each part has a channel of its own, so that there is one row of messages alone. */
    private static boolean holds(int kind, int n, int... values) {
        JoinVessel x = new JoinVessel();
        x.reaction();
        for (int i = 0; i < values.length; i++) {
            x.channel(false);
            x.part(0, i, 0, 0);
        }
        x.guard(0, kind, n);
        x.seal();
        for (int i = 0; i < values.length; i++) {
            x.put(i, values[i]);
        }
        return x.enabled() == 1;
    }

    private static void guards() {
        Due.due("5 kind 0", holds(0, 0, 3, 3, 1), true);
        Due.due("5 kind 1, rising", holds(1, 0, LEAST, 0, 1, MOST), true);
        Due.due("5 kind 1, equal at the end", holds(1, 0, 1, 2, 3, 3), false);
        Due.due("5 kind 1, falling at first", holds(1, 0, 2, 1, 3, 4), false);
        Due.due("5 kind 2, equal", holds(2, 0, 7, 7, 7, 7), true);
        Due.due("5 kind 2, not the last", holds(2, 0, 7, 7, 7, 8), false);
        Due.due("5 kind 2, not the first", holds(2, 0, 8, 7, 7), false);
        Due.due("5 kind 3, none equal", holds(3, 0, 4, 1, 3, 2), true);
        Due.due("5 kind 3, first and last equal", holds(3, 0, 4, 1, 3, 4), false);
        Due.due("5 kind 3, neighbours equal", holds(3, 0, 1, 3, 3), false);
        Due.due("5 kind 4, at most", holds(4, 10, 1, 2, 3, 4), true);
        Due.due("5 kind 4, beyond", holds(4, 9, 1, 2, 3, 4), false);
        Due.due("5 kind 4, no wrapping up", holds(4, 0, MOST, MOST), false);
        Due.due("5 kind 4, no wrapping up to 0", holds(4, 0, LEAST, LEAST, MOST, MOST), true);
        Due.due("5 kind 4, no wrapping down", holds(4, LEAST, LEAST, LEAST, LEAST, LEAST), true);
        Due.due("5 kind 5, divides", holds(5, 3, 1, 2, 3), true);
        Due.due("5 kind 5, does not", holds(5, 4, 1, 2, 3), false);
        Due.due("5 kind 5, n = 0", holds(5, 0, 0, 0), false);
        Due.due("5 kind 5, n below 0", holds(5, -3, 1, 2, 3), true);
        Due.due("5 kind 5, sum below 0", holds(5, 3, -1, -2, -3), true);
        Due.due("5 kind 5, sum below 0, does not", holds(5, 3, -1, -3), false);
        Due.due("5 kind 5, sum 0", holds(5, 9, 5, -5), true);
        Due.due("5 kind 5, no wrapping", holds(5, 3, MOST, 1), false);
        Due.due("5 kind 5, no wrapping to 0", holds(5, 3, LEAST, LEAST), false);
        Due.due("5 kind 5, least by -1", holds(5, -1, LEAST), true);
        Due.due("5 kind 5, by the least", holds(5, LEAST, LEAST, LEAST), true);
    }

    private static void guardsOfFewParts() {
        for (int kind = 0; kind <= 3; kind++) {
            Due.due("5 kind " + kind + " of one part", holds(kind, 0, 5), true);
        }
        Due.due("5 kind 4 of one part", holds(4, 5, 5), true);
        Due.due("5 kind 4 of one part, beyond", holds(4, 4, 5), false);
        Due.due("5 kind 1 of two parts, equal", holds(1, 0, 5, 5), false);
    }

    /** The value that one action makes of the values, by emit and by reply, which must agree. */
    private static int result(int kind, int p, int n, int... values) {
        JoinVessel x = new JoinVessel();
        x.channel(false);
        x.channel(true);
        x.reaction();
        x.part(0, 1, 0, 0);
        for (int i = 1; i < values.length; i++) {
            x.part(0, 0, 0, 0);
        }
        x.emit(0, 0, kind, p, n);
        x.reply(0, 0, kind, p, n);
        x.seal();
        x.call(1, values[0]);
        for (int i = 1; i < values.length; i++) {
            x.put(0, values[i]);
        }
        Due.due("12 fires", x.react(1), 1);
        Due.due("6, 7 sent and answered", x.value(values.length), x.answer(0));
        return x.value(values.length);
    }

    private static void expressions() {
        Due.due("6 kind 0", result(0, 9, -17, 1, 2), -17);
        Due.due("6 kind 1", result(1, 1, 5, 10, 20, 30), 25);
        Due.due("6 kind 1, part 0", result(1, 0, -5, 10, 20, 30), 5);
        Due.due("6 kind 1 wraps", result(1, 0, 1, MOST), LEAST);
        Due.due("6 kind 2", result(2, 2, -3, 10, 20, 30), -90);
        Due.due("6 kind 2 wraps", result(2, 0, 3, MOST), MOST * 3);
        Due.due("6 kind 2, least by -1", result(2, 0, -1, LEAST), LEAST);
        Due.due("6 kind 3", result(3, -1, 4, 1, 10, 100, 1000), 1115);
        Due.due("6 kind 3 wraps", result(3, 0, 1, MOST, MOST), -1);
        Due.due("6 kind 3 wraps by n", result(3, 0, MOST, 1), LEAST);
        Due.due("6 kind 4, first", result(4, 7, 100, 9, 3, 4), 9);
        Due.due("6 kind 4, within", result(4, 7, 100, -9, -3, -4), -3);
        Due.due("6 kind 4, last", result(4, 7, 100, 1, 2, 3, 8), 8);
        Due.due("6 kind 4, one", result(4, 0, 100, LEAST), LEAST);
    }

    private static void actionsInOrder() {
        JoinVessel x = Vessels.withParts(1);
        x.emit(0, 1, 0, 0, 11);
        x.emit(0, 0, 0, 0, 12);
        x.emit(0, 1, 0, 0, 13);
        x.emit(0, 1, 1, 0, 14);
        x.seal();
        x.put(0, 100);
        Due.due("12 fires", x.react(1), 1);
        int[] values = {100, 11, 12, 13, 114};
        int[] channels = {0, 1, 0, 1, 1};
        int[] places = {0, 0, 0, 1, 2};
        for (int m = 1; m < 5; m++) {
            Due.due("6 value of " + m, x.value(m), values[m]);
            Due.due("6 place of " + m, x.pendingAt(channels[m], places[m]), m);
            Due.due("6 state of " + m, x.state(m), 1);
            Due.due("6 consumer of " + m, x.consumer(m), -1);
        }
        Due.due("6 no more", x.state(5), 0);
    }

    private static void repliesGoToTheirParts() {
        JoinVessel x = Vessels.withChannels();
        x.reaction();
        x.part(0, 2, 1, 5);
        x.part(0, 3, 0, 0);
        x.part(0, 2, 1, 6);
        x.reply(0, 2, 0, 0, 102);
        x.reply(0, 0, 0, 0, 100);
        x.reply(0, 1, 3, 0, 0);
        x.seal();
        x.call(2, 6);
        x.call(2, 5);
        x.call(3, 7);
        Due.due("7 fires", x.react(5), 1);
        Due.due("7 taken by part 2", x.answer(0), 102);
        Due.due("7 taken by part 0", x.answer(1), 100);
        Due.due("7 taken by part 1", x.answer(2), 18);
        Due.due("7 makes no message", x.state(3), 0);
    }

    private static void firstMatch() {
        JoinVessel x = Vessels.withParts(3);
        x.guard(0, 4, 10);
        x.seal();
        int[] values = {9, 4, 4, 3, 3, 2};
        for (int v : values) {
            x.put(0, v);
        }
        // Of all rows with a sum of at most 10, message 1 is the least that part 0 can take.
        Due.due("15 part 0", x.taken(0), 1);
        Due.due("15 part 1", x.taken(1), 2);
        Due.due("15 part 2", x.taken(2), 5);
        x.react(1);
        Due.due("12 those are taken", x.state(1) * 100 + x.state(2) * 10 + x.state(5), 222);
        Due.due("12 the rest are not", x.state(0) * 100 + x.state(3) * 10 + x.state(4), 111);
        Due.due("14 no match left", x.next(), -1);
        partZeroCountsMost();
    }

    private static void partZeroCountsMost() {
        JoinVessel x = Vessels.withChannels();
        x.reaction();
        x.part(0, 1, 0, 0);
        x.part(0, 0, 0, 0);
        x.guard(0, 2, 0);
        x.seal();
        x.put(0, 8);
        x.put(1, 9);
        x.put(1, 8);
        x.put(0, 9);
        Due.due("15 least number for part 0", x.taken(0), 1);
        Due.due("15 what is left for part 1", x.taken(1), 3);
    }

    private static void differentMessages() {
        JoinVessel x = Vessels.withParts(2);
        x.seal();
        x.put(0, 5);
        Due.due("13 one message for two parts", x.enabled(), 0);
        x.put(0, 5);
        Due.due("13 two messages", x.enabled(), 1);
        Due.due("15 part 0", x.taken(0), 0);
        Due.due("15 part 1", x.taken(1), 1);
        JoinVessel y = Vessels.withParts(4);
        y.seal();
        for (int i = 0; i < 3; i++) {
            y.put(0, 5);
        }
        Due.due("13 three messages for four parts", y.enabled(), 0);
        y.put(0, 5);
        Due.due("13 four messages", y.enabled(), 1);
        Due.due("12 fires once", y.react(5), 1);
    }

    private static void reactCounts() {
        JoinVessel x = Vessels.sealed();
        for (int i = 0; i < 6; i++) {
            x.put(0, i);
        }
        Due.due("12 none", x.react(0), 0);
        Due.due("18 none was taken", x.state(0), 1);
        Due.due("12 two", x.react(2), 2);
        Due.due("18 two were taken", x.state(1), 2);
        Due.due("18 not three", x.state(2), 1);
        Due.due("12 fewer than asked", x.react(5), 4);
        Due.due("12 nothing left", x.react(5), 0);
        sentMessagesReactInTheSameCall();
    }

    private static void sentMessagesReactInTheSameCall() {
        JoinVessel x = Vessels.withChannels();
        x.reaction();
        x.part(0, 0, 2, 3);
        x.emit(0, 0, 1, 0, 1);
        x.seal();
        x.put(0, 0);
        Due.due("12 as long as it goes", x.react(5), 3);
        Due.due("17 the last value", x.value(3), 3);
        Due.due("18 it is PENDING", x.state(3), 1);
        x.put(0, -9);
        Due.due("12 at most n", x.react(5), 5);
        Due.due("12 and on", x.react(4), 4);
    }

    private static void reactRefused() {
        JoinVessel x = Vessels.sealed();
        x.put(0, 1);
        String before = Vessels.seen(x);
        for (int bad : new int[] {-1, 6, 7, LEAST, MOST}) {
            Due.due("12 n = " + bad, x.react(bad), -1);
        }
        Due.due("12 refused", Vessels.seen(x), before);
        JoinVessel open = Vessels.withParts(1);
        Due.due("12 not sealed", open.react(1), -1);
        Due.due("12 not sealed, n = 0", open.react(0), -1);
    }

    /** So many reactions, each of which takes a message from channel 0. */
    private static JoinVessel rivals(int count) {
        JoinVessel x = new JoinVessel();
        x.channel(false);
        for (int r = 0; r < count; r++) {
            x.reaction();
            x.part(r, 0, 0, 0);
        }
        x.seal();
        return x;
    }

    private static void nextGoesRound() {
        JoinVessel x = rivals(3);
        Due.due("14 none", x.next(), -1);
        for (int i = 0; i < 6; i++) {
            x.put(0, i);
        }
        for (int k = 0; k < 5; k++) {
            Due.due("14 before firing " + k, x.next(), k % 3);
            Due.due("14 asked again", x.next(), k % 3);
            x.react(1);
            Due.due("21 firing " + k, x.fired(k), k % 3);
        }
        nextPassesOverWhatIsNotEnabled();
    }

    private static void nextPassesOverWhatIsNotEnabled() {
        JoinVessel x = new JoinVessel();
        for (int r = 0; r < 4; r++) {
            x.channel(false);
            x.reaction();
            x.part(r, r, 0, 0);
        }
        x.seal();
        x.put(2, 0);
        Due.due("14 over 0 and 1", x.next(), 2);
        x.react(1);
        x.put(1, 0);
        x.put(2, 0);
        Due.due("14 over 3 and 0", x.next(), 1);
        x.react(0);
        Due.due("14 nothing fired", x.next(), 1);
        x.react(1);
        Due.due("14 then 2", x.next(), 2);
        x.put(1, 0);
        x.react(1);
        x.put(2, 0);
        Due.due("14 the one that fired last comes last", x.next(), 1);
        x.react(1);
        x.react(1);
        x.put(2, 0);
        Due.due("14 it comes when no other is enabled", x.next(), 2);
        x.put(3, 0);
        x.react(1);
        x.put(0, 0);
        Due.due("14 behind the highest, 0", x.next(), 0);
    }

    private static void enabledIsASet() {
        JoinVessel x = new JoinVessel();
        for (int r = 0; r < 8; r++) {
            x.channel(false);
            x.reaction();
            x.part(r, r, 0, 0);
        }
        x.seal();
        int set = 0;
        for (int r = 7; r >= 0; r -= 2) {
            x.put(r, r);
            set += 1 << r;
            Due.due("13 with " + r, x.enabled(), set);
        }
        Due.due("13 asked again", x.enabled(), 170);
        x.react(1);
        Due.due("13 without 1", x.enabled(), 168);
        Due.due("13 all eight of them", allEight(), 255);
    }

    private static int allEight() {
        JoinVessel x = rivals(8);
        x.put(0, 0);
        return x.enabled();
    }

    private static void roomOnChannels() {
        JoinVessel x = Vessels.withParts(1);
        x.emit(0, 1, 0, 0, 0);
        x.emit(0, 1, 0, 0, 0);
        x.reaction();
        x.part(1, 1, 1, 9);
        x.seal();
        x.put(0, 5);
        for (int i = 0; i < 4; i++) {
            x.put(1, i);
        }
        Due.due("13 six would be PENDING", x.enabled(), 1);
        x.put(1, 9);
        Due.due("13 seven would be PENDING", x.enabled(), 2);
        Due.due("14 the one with room", x.next(), 1);
        Due.due("15 its message", x.taken(0), 5);
        Due.due("12 both fire", x.react(5), 2);
        Due.due("21 first 1", x.fired(0), 1);
        Due.due("21 then 0", x.fired(1), 0);
        Due.due("16 six are PENDING", x.pendingAt(1, 5), 7);
        x.put(0, 5);
        Due.due("13 no room", x.enabled(), 0);
        Due.due("14 no room", x.next(), -1);
        Due.due("15 no room", x.taken(0), -1);
        Due.due("12 no room", x.react(5), 0);
    }

    private static void roomAfterTaking() {
        JoinVessel x = Vessels.withParts(2);
        x.emit(0, 0, 1, 0, 100);
        x.emit(0, 0, 1, 1, 200);
        x.reaction();
        x.part(1, 0, 0, 0);
        x.emit(1, 0, 0, 0, 0);
        x.emit(1, 0, 0, 0, 0);
        x.seal();
        for (int i = 0; i < 6; i++) {
            x.put(0, i);
        }
        Due.due("13 what is taken makes room", x.enabled(), 1);
        Due.due("12 it fires", x.react(1), 1);
        Due.due("16 the fifth", x.pendingAt(0, 4), 6);
        Due.due("16 the sixth", x.pendingAt(0, 5), 7);
        Due.due("17 the fifth", x.value(6), 100);
        Due.due("17 the sixth", x.value(7), 201);
        Due.due("14 the other has no room", x.next(), 0);
    }

    private static void fullChannelsThatNothingIsSentTo() {
        JoinVessel x = Vessels.withChannels();
        x.channel(false);
        x.reaction();
        x.part(0, 4, 0, 0);
        x.emit(0, 1, 0, 0, 0);
        x.reaction();
        x.part(1, 2, 0, 0);
        x.reply(1, 0, 0, 0, 0);
        x.seal();
        x.put(4, 1);
        for (int i = 0; i < 6; i++) {
            x.put(0, i);
            x.call(2, i);
            x.call(3, i);
        }
        Due.due("13 full channels do not matter", x.enabled(), 3);
        Due.due("12 both fire", x.react(2), 2);
        Due.due("16 channel 0 is full still", x.pendingAt(0, 5) != -1, true);
    }

    private static void roomForMessages() {
        JoinVessel x = Vessels.withParts(1);
        for (int r = 1; r <= 3; r++) {
            x.reaction();
            x.part(r, 1, 0, 0);
            for (int a = 1; a < r; a++) {
                x.emit(r, 0, 0, 0, r);
            }
        }
        x.part(3, 2, 0, 0);
        x.reply(3, 1, 0, 0, 0);
        x.seal();
        Vessels.makeMessages(x, 296);
        x.put(1, 0);
        x.call(2, 0);
        Due.due("13 298 made, two more", x.enabled(), 14);
        x.put(1, 0);
        Due.due("13 299 made, one more; an answer is no message", x.enabled(), 6);
        x.put(1, 0);
        Due.due("13 300 made, none more", x.enabled(), 2);
        Due.due("14 300 made", x.next(), 1);
        Due.due("12 it still fires", x.react(5), 3);
        Due.due("21 as firing 298", x.fired(298), 1);
        Due.due("18 none was made", x.state(300), 0);
    }

    private static void taken() {
        JoinVessel x = Vessels.withParts(2);
        x.reaction();
        x.part(1, 1, 0, 0);
        x.seal();
        for (int part = -1; part <= 4; part++) {
            Due.due("15 none enabled, part " + part, x.taken(part), -1);
        }
        x.put(0, 1);
        x.put(1, 2);
        Due.due("15 reaction 1, part 0", x.taken(0), 1);
        Due.due("15 reaction 1 has no part 1", x.taken(1), -1);
        x.put(0, 3);
        Due.due("15 reaction 0, part 0", x.taken(0), 0);
        Due.due("15 reaction 0, part 1", x.taken(1), 2);
        for (int bad : new int[] {-1, 2, 3, 4, LEAST, MOST}) {
            Due.due("15 reaction 0 has no part " + bad, x.taken(bad), -1);
        }
        Due.due("18 nothing was taken", x.state(0) + x.state(1) + x.state(2), 3);
    }

    private static void notSealed() {
        JoinVessel x = Vessels.withParts(1);
        Due.due("13 not sealed", x.enabled(), 0);
        Due.due("14 not sealed", x.next(), -1);
        Due.due("15 not sealed", x.taken(0), -1);
        JoinVessel partless = Vessels.withParts(0);
        Due.due("13 not sealed, no parts", partless.enabled(), 0);
        Due.due("14 not sealed, no parts", partless.next(), -1);
    }

    private static void firings() {
        JoinVessel x = rivals(2);
        Due.due("21 none", x.fired(0), -1);
        x.put(0, 1);
        x.put(0, 2);
        x.react(2);
        Due.due("21 firing 0", x.fired(0), 0);
        Due.due("21 firing 1", x.fired(1), 1);
        for (int bad : new int[] {-1, 2, 299, 300, LEAST, MOST}) {
            Due.due("21 no firing " + bad, x.fired(bad), -1);
        }
        x.react(5);
        Due.due("21 nothing fired", x.fired(2), -1);
    }
}
