/** Promises 9 to 11 and 16 to 20: messages, how they are made and withdrawn, and what is seen of them. */
public final class MessagesTest {
    private static final int[] NO_MESSAGES = {-1, 300, Integer.MIN_VALUE, Integer.MAX_VALUE};

    public static void main(String[] args) {
        notSealed();
        wrongChannels();
        sixPending("9", true);
        sixPending("10", false);
        threeHundred();
        withdrawing();
        withdrawnIsNotTaken();
        pendingInOrder();
        valuesStay();
        states();
        consumers();
        answers();
        noSuchMessage();
        Due.end();
    }

    private static void notSealed() {
        JoinVessel x = Vessels.withParts(1);
        Due.due("9 not sealed", x.put(0, 1), -1);
        Due.due("10 not sealed", x.call(2, 1), -1);
        x.seal();
        Due.due("9 sealed", x.put(0, 1), 0);
        Due.due("10 sealed", x.call(2, 1), 1);
    }

    private static void wrongChannels() {
        JoinVessel x = Vessels.sealed();
        String before = Vessels.seen(x);
        for (int bad : new int[] {-1, 4, 8, Integer.MIN_VALUE, Integer.MAX_VALUE}) {
            Due.due("9 no channel " + bad, x.put(bad, 1), -1);
            Due.due("10 no channel " + bad, x.call(bad, 1), -1);
        }
        Due.due("9 an ANSWERED channel", x.put(2, 1), -1);
        Due.due("10 a PLAIN channel", x.call(0, 1), -1);
        Due.due("9, 10 refused", Vessels.seen(x), before);
        Due.due("9 then", x.put(0, 1), 0);
    }

    private static int make(JoinVessel x, boolean plain, int channel, int value) {
        return plain ? x.put(channel, value) : x.call(channel, value);
    }

    private static void sixPending(String promise, boolean plain) {
        JoinVessel x = Vessels.sealed();
        int channel = plain ? 0 : 2;
        for (int m = 0; m < 6; m++) {
            Due.due(promise + " number " + m, make(x, plain, channel, 10 + m), m);
        }
        String before = Vessels.seen(x);
        Due.due(promise + " a seventh", make(x, plain, channel, 99), -1);
        Due.due(promise + " refused", Vessels.seen(x), before);
        Due.due(promise + " another channel", make(x, plain, channel + 1, 50), 6);
        x.react(1);
        Due.due(promise + " one was taken", make(x, plain, channel, 51), 7);
        Due.due(promise + " six again", make(x, plain, channel, 52), -1);
    }

    private static void threeHundred() {
        JoinVessel x = Vessels.sealed();
        Vessels.makeMessages(x, 299);
        Due.due("9 the last one", x.put(0, 5), 299);
        Due.due("9 beyond 300", x.put(0, 5), -1);
        Due.due("9 beyond 300 on another channel", x.put(1, 5), -1);
        Due.due("10 beyond 300", x.call(2, 5), -1);
        Due.due("9 none was made", x.state(300), 0);
        Due.due("9 the last one is there", x.value(299), 5);
        JoinVessel y = Vessels.sealed();
        Vessels.makeMessages(y, 299);
        Due.due("10 the last one", y.call(2, 6), 299);
        Due.due("10 beyond 300 too", y.call(2, 6), -1);
        Due.due("9 beyond 300 too", y.put(0, 6), -1);
        Due.due("12 the last one is taken", y.react(5), 1);
        Due.due("21 as firing 299", y.fired(299), 1);
        Due.due("21 no firing 300", y.fired(300), -1);
        Due.due("19 by firing 299", y.consumer(299), 299);
        Due.due("20 and answered", y.answer(299), 6);
        Due.due("9 beyond 300 still", y.put(0, 6), -1);
    }

    private static void withdrawing() {
        JoinVessel x = Vessels.sealed();
        x.put(0, 1);
        x.call(2, 2);
        x.call(3, 3);
        Due.due("11 on a PLAIN channel", x.withdraw(0), false);
        Due.due("11 no message 3", x.withdraw(3), false);
        for (int bad : NO_MESSAGES) {
            Due.due("11 no message " + bad, x.withdraw(bad), false);
        }
        Due.due("18 all are PENDING", x.state(0) * 100 + x.state(1) * 10 + x.state(2), 111);
        Due.due("11 a call", x.withdraw(2), true);
        Due.due("18 it is WITHDRAWN", x.state(2), 3);
        Due.due("16 not PENDING", x.pendingAt(3, 0), -1);
        Due.due("11 again", x.withdraw(2), false);
        x.react(5);
        Due.due("18 the other call is CONSUMED", x.state(1), 2);
        String before = Vessels.seen(x);
        Due.due("11 a CONSUMED call", x.withdraw(1), false);
        Due.due("11 a CONSUMED message", x.withdraw(0), false);
        Due.due("11 refused", Vessels.seen(x), before);
    }

    private static void withdrawnIsNotTaken() {
        JoinVessel x = Vessels.sealed();
        for (int m = 0; m < 6; m++) {
            x.call(2, m * 10);
        }
        Due.due("11 the first", x.withdraw(0), true);
        Due.due("11 one within", x.withdraw(3), true);
        Due.due("15 the first left", x.taken(0), 1);
        Due.due("10 two places", x.call(2, 70), 6);
        Due.due("10 one place", x.call(2, 80), 7);
        Due.due("10 no place", x.call(2, 90), -1);
        int[] left = {1, 2, 4, 5, 6, 7};
        for (int k = 0; k < 6; k++) {
            Due.due("16 number " + k, x.pendingAt(2, k), left[k]);
        }
        Due.due("12 the rest", x.react(5) + x.react(5), 6);
        Due.due("20 withdrawn, no answer", x.answer(3), 0);
        Due.due("19 withdrawn, no consumer", x.consumer(3), -1);
        Due.due("18 withdrawn for ever", x.state(3), 3);
        Due.due("17 withdrawn, the value", x.value(3), 30);
    }

    private static void pendingInOrder() {
        JoinVessel x = Vessels.withChannels();
        x.reaction();
        x.part(0, 0, 1, 7);
        x.seal();
        Due.due("16 none", x.pendingAt(0, 0), -1);
        x.put(0, 9);
        x.put(1, 9);
        x.put(0, 7);
        x.put(0, 8);
        Due.due("16 k = 0", x.pendingAt(0, 0), 0);
        Due.due("16 k = 1", x.pendingAt(0, 1), 2);
        Due.due("16 k = 2", x.pendingAt(0, 2), 3);
        Due.due("16 k = 3", x.pendingAt(0, 3), -1);
        Due.due("16 channel 1", x.pendingAt(1, 0), 1);
        x.react(1);
        Due.due("16 behind the taken one", x.pendingAt(0, 1), 3);
        Due.due("16 no third now", x.pendingAt(0, 2), -1);
        for (int bad : new int[] {-1, 6, 7, Integer.MIN_VALUE, Integer.MAX_VALUE}) {
            Due.due("16 no k " + bad, x.pendingAt(0, bad), -1);
            Due.due("16 no channel " + bad, x.pendingAt(bad, 0), -1);
        }
        Due.due("16 no channel 4", x.pendingAt(4, 0), -1);
        Due.due("16 not sealed", Vessels.withParts(1).pendingAt(0, 0), -1);
    }

    private static void valuesStay() {
        JoinVessel x = Vessels.sealed();
        x.put(0, Integer.MIN_VALUE);
        x.call(2, Integer.MAX_VALUE);
        x.call(3, -1);
        for (int turn = 0; turn < 2; turn++) {
            Due.due("17 least", x.value(0), Integer.MIN_VALUE);
            Due.due("17 greatest", x.value(1), Integer.MAX_VALUE);
            Due.due("17 below 0", x.value(2), -1);
            x.react(5);
            x.withdraw(2);
        }
    }

    private static void states() {
        JoinVessel x = Vessels.sealed();
        x.put(0, 4);
        x.call(2, 4);
        Due.due("18 PENDING", x.state(0), 1);
        x.react(1);
        Due.due("18 CONSUMED", x.state(0), 2);
        Due.due("18 PENDING still", x.state(1), 1);
        x.withdraw(1);
        Due.due("18 WITHDRAWN", x.state(1), 3);
        x.react(5);
        Due.due("18 CONSUMED for ever", x.state(0), 2);
    }

    private static void consumers() {
        JoinVessel x = Vessels.sealed();
        x.put(0, 4);
        x.call(2, 4);
        x.put(0, 4);
        Due.due("19 none yet", x.consumer(0), -1);
        x.react(1);
        Due.due("19 the first firing", x.consumer(0), 0);
        x.react(2);
        Due.due("19 the second firing", x.consumer(1), 1);
        Due.due("19 the third firing", x.consumer(2), 2);
        x.put(1, 4);
        x.react(5);
        Due.due("19 nothing takes it", x.consumer(3), -1);
    }

    private static void answers() {
        JoinVessel x = Vessels.sealed();
        x.call(2, -12);
        x.call(2, 13);
        x.put(0, 14);
        Due.due("20 none yet", x.answer(0), 0);
        x.react(1);
        Due.due("20 a PLAIN message", x.answer(2), 0);
        x.react(1);
        Due.due("20 the first", x.answer(0), -12);
        Due.due("20 not the second", x.answer(1), 0);
        x.react(1);
        Due.due("20 the second", x.answer(1), 13);
        Due.due("20 the first still", x.answer(0), -12);
    }

    private static void noSuchMessage() {
        JoinVessel x = Vessels.sealed();
        x.call(2, 3);
        x.react(1);
        for (int bad : new int[] {-1, 1, 299, 300, Integer.MIN_VALUE, Integer.MAX_VALUE}) {
            Due.due("17 no message " + bad, x.value(bad), 0);
            Due.due("18 no message " + bad, x.state(bad), 0);
            Due.due("19 no message " + bad, x.consumer(bad), -1);
            Due.due("20 no message " + bad, x.answer(bad), 0);
        }
    }
}
