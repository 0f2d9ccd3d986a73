/** Promises 9 to 11 and 16 to 20, in ordinary use: messages made, withdrawn and taken, and what is seen of them. */
public final class MessagesTest {
    public static void main(String[] args) {
        Due.run(
                MessagesTest::withdrawing,
                MessagesTest::withdrawnIsNotTaken,
                MessagesTest::pendingInOrder,
                MessagesTest::states,
                MessagesTest::consumers,
                MessagesTest::answers);
    }

    private static void withdrawing() {
        JoinVessel x = Vessels.sealed();
        x.put(0, 1);
        x.call(2, 2);
        x.call(3, 3);
        Due.due("11 on a PLAIN channel", x.withdraw(0), false);
        Due.due("11 no message 3", x.withdraw(3), false);
        Due.due("18 all are PENDING", x.state(0) * 100 + x.state(1) * 10 + x.state(2), 111);
        Due.due("11 a call", x.withdraw(2), true);
        Due.due("18 it is WITHDRAWN", x.state(2), 3);
        Due.due("16 not PENDING", x.pendingAt(3, 0), -1);
        Due.due("11 again", x.withdraw(2), false);
        x.react(5);
        Due.due("18 the other call is CONSUMED", x.state(1), 2);
        String before = Vessels.seen(x);
        Due.due("11 a CONSUMED call", x.withdraw(1), false);
        Due.due("11 a CONSUMED message", x.withdraw(0), false);
        Due.due("11 refused", Vessels.seen(x), before);
    }

    private static void withdrawnIsNotTaken() {
        JoinVessel x = Vessels.sealed();
        for (int m = 0; m < 6; m++) {
            x.call(2, m * 10);
        }
        Due.due("11 the first", x.withdraw(0), true);
        Due.due("11 one within", x.withdraw(3), true);
        Due.due("15 the first left", x.taken(0), 1);
        Due.due("10 two places", x.call(2, 70), 6);
        Due.due("10 one place", x.call(2, 80), 7);
        Due.due("10 no place", x.call(2, 90), -1);
        int[] left = {1, 2, 4, 5, 6, 7};
        for (int k = 0; k < 6; k++) {
            Due.due("16 number " + k, x.pendingAt(2, k), left[k]);
        }
        Due.due("12 the rest", x.react(5) + x.react(5), 6);
        Due.due("20 withdrawn, no answer", x.answer(3), 0);
        Due.due("19 withdrawn, no consumer", x.consumer(3), -1);
        Due.due("18 withdrawn for ever", x.state(3), 3);
        Due.due("17 withdrawn, the value", x.value(3), 30);
    }

    private static void pendingInOrder() {
        JoinVessel x = Vessels.withChannels();
        x.reaction();
        x.part(0, 0, 1, 7);
        x.seal();
        Due.due("16 none", x.pendingAt(0, 0), -1);
        x.put(0, 9);
        x.put(1, 9);
        x.put(0, 7);
        x.put(0, 8);
        Due.due("16 k = 0", x.pendingAt(0, 0), 0);
        Due.due("16 k = 1", x.pendingAt(0, 1), 2);
        Due.due("16 k = 2", x.pendingAt(0, 2), 3);
        Due.due("16 k = 3", x.pendingAt(0, 3), -1);
        Due.due("16 channel 1", x.pendingAt(1, 0), 1);
        x.react(1);
        Due.due("16 behind the taken one", x.pendingAt(0, 1), 3);
        Due.due("16 no third now", x.pendingAt(0, 2), -1);
    }

    private static void states() {
        JoinVessel x = Vessels.sealed();
        x.put(0, 4);
        x.call(2, 4);
        Due.due("18 PENDING", x.state(0), 1);
        x.react(1);
        Due.due("18 CONSUMED", x.state(0), 2);
        Due.due("18 PENDING still", x.state(1), 1);
        x.withdraw(1);
        Due.due("18 WITHDRAWN", x.state(1), 3);
        x.react(5);
        Due.due("18 CONSUMED for ever", x.state(0), 2);
    }

    private static void consumers() {
        JoinVessel x = Vessels.sealed();
        x.put(0, 4);
        x.call(2, 4);
        x.put(0, 4);
        Due.due("19 none yet", x.consumer(0), -1);
        x.react(1);
        Due.due("19 the first firing", x.consumer(0), 0);
        x.react(2);
        Due.due("19 the second firing", x.consumer(1), 1);
        Due.due("19 the third firing", x.consumer(2), 2);
        x.put(1, 4);
        x.react(5);
        Due.due("19 nothing takes it", x.consumer(3), -1);
    }

    private static void answers() {
        JoinVessel x = Vessels.sealed();
        x.call(2, -12);
        x.call(2, 13);
        x.put(0, 14);
        Due.due("20 none yet", x.answer(0), 0);
        x.react(1);
        Due.due("20 a PLAIN message", x.answer(2), 0);
        x.react(1);
        Due.due("20 the first", x.answer(0), -12);
        Due.due("20 not the second", x.answer(1), 0);
        x.react(1);
        Due.due("20 the second", x.answer(1), 13);
        Due.due("20 the first still", x.answer(0), -12);
    }
}
