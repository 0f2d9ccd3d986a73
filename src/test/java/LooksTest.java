/**
 * Promises 12 to 21, the boundary cases of what is answered: nothing enabled, nothing there, a number
 * below 0, just too large, the least and the greatest int.
 */
public final class LooksTest {
    private static final String NO_PART = "Promise 15: or the next reaction has no such part";
    private static final int LEAST = Integer.MIN_VALUE;
    private static final int MOST = Integer.MAX_VALUE;
    /** Numbers that are wrong everywhere, some of them right if all but the lowest bits were dropped. */
    private static final int[] WILD = {LEAST, LEAST + 1, -300, -256, -2, -1, 300, 301, 511, 512, 65536, 1 << 30, MOST};

    public static void main(String[] args) {
        Due.run(
                LooksTest::howManyFire,
                LooksTest::setsOfReactions,
                LooksTest::noneEnabled,
                LooksTest::takenByParts,
                LooksTest::takenByTheNextReaction,
                LooksTest::pendingByNumber,
                LooksTest::pendingInOrder,
                LooksTest::pendingOnNoChannel,
                LooksTest::noSuchMessage,
                LooksTest::noMessageBehindTheLast,
                LooksTest::valueOfEveryMessage,
                LooksTest::statesOfMessages,
                LooksTest::noConsumer,
                LooksTest::noAnswer,
                LooksTest::noSuchFiring);
    }

    // ---- promise 12 ----

    private static void howManyFire() {
        Due.sentence("Promise 12: As long as fewer than n reactions have fired in this call, the next reaction fires,"
                + " if there is one.");
        for (int ready = 0; ready <= 6; ready++) {
            for (int n = 0; n <= 5; n++) {
                JoinVessel x = Vessels.sealed();
                for (int m = 0; m < ready; m++) {
                    x.put(0, m);
                }
                int want = Math.min(n, ready);
                String what = ready + " are ready, n " + n;
                Due.due(what, x.react(n), want);
                Due.due(what + ", the last that was taken", x.state(want - 1), want > 0 ? 2 : 0);
                Due.due(what + ", the first that was not", x.state(want), want < ready ? 1 : 0);
                Due.due(what + ", the last firing", x.fired(want - 1), want > 0 ? 0 : -1);
                Due.due(what + ", no other firing", x.fired(want), -1);
            }
        }
        JoinVessel x = Vessels.withChannels();
        x.reaction();
        x.part(0, 0, 2, 3);
        x.emit(0, 0, 1, 0, 1);
        x.seal();
        x.put(0, 0);
        Due.due("what was sent reacts in the same call", x.react(5), 3);
        x.put(0, -9);
        Due.due("at most n", x.react(5), 5);
        Due.due("and on in the next call", x.react(5), 5);
    }

    // ---- promises 13 and 14 ----

    private static void setsOfReactions() {
        Due.sentence("Promise 13: A set of reactions, those that are enabled: the sum of 2 to the power of r over all"
                + " of them.");
        for (int set = 0; set < 256; set++) {
            JoinVessel x = new JoinVessel();
            x.channel(false);
            int sum = 0;
            for (int r = 0; r < 8; r++) {
                x.reaction();
                boolean in = (set >> r) % 2 == 1;
                x.part(r, 0, 1, in ? 7 : 8);
                sum += in ? Math.pow(2, r) : 0;
            }
            x.seal();
            Due.due("nothing is there, set " + set, x.enabled(), 0);
            x.put(0, 7);
            Due.due("set " + set, x.enabled(), sum);
            Due.due("set " + set + ", asked again", x.enabled(), sum);
        }
    }

    private static void dueNone(String what, JoinVessel x) {
        Due.sentence("Promise 13: those that are enabled");
        Due.due(what, x.enabled(), 0);
        Due.sentence("Promise 14: NONE when none is enabled");
        Due.due(what, x.next(), -1);
        Due.sentence("Promise 15: NONE when none is enabled");
        for (int part = -1; part <= 4; part++) {
            Due.due(what + ", part " + part, x.taken(part), -1);
        }
        for (int part : WILD) {
            Due.due(what + ", part " + part, x.taken(part), -1);
        }
    }

    private static void noneEnabled() {
        dueNone("a new object", new JoinVessel());
        dueNone("not sealed", Vessels.withParts(2));
        dueNone("not sealed, a reaction without parts", Vessels.withParts(0));
        JoinVessel x = Vessels.sealed();
        dueNone("no message", x);
        x.put(1, 0);
        x.call(3, 0);
        dueNone("messages on other channels", x);
        x.put(0, 0);
        x.react(1);
        dueNone("all were taken", x);
        x.call(2, 0);
        x.withdraw(3);
        dueNone("the call was withdrawn", x);
        JoinVessel full = Vessels.withParts(1);
        full.emit(0, 1, 0, 0, 0);
        full.seal();
        full.put(0, 0);
        for (int m = 0; m < 6; m++) {
            full.put(1, 0);
        }
        dueNone("no room", full);
    }

    // ---- promise 15 ----

    private static void takenByParts() {
        Due.sentence(NO_PART);
        for (int parts = 1; parts <= 4; parts++) {
            JoinVessel x = Vessels.withParts(parts);
            x.seal();
            x.put(1, 0);
            for (int m = 0; m < 6; m++) {
                x.put(0, m);
            }
            for (int part = 0; part < 5; part++) {
                Due.due("part " + part + " of " + parts, x.taken(part), part < parts ? part + 1 : -1);
            }
            for (int part : WILD) {
                Due.due("part " + part + " of " + parts, x.taken(part), -1);
            }
            Due.due("nothing was taken", x.state(1), 1);
        }
    }

    private static void takenByTheNextReaction() {
        Due.sentence(NO_PART);
        JoinVessel x = Vessels.withParts(3);
        x.reaction();
        x.part(1, 1, 0, 0);
        x.seal();
        x.put(0, 1);
        x.put(0, 1);
        x.put(1, 2);
        Due.due("reaction 1, part 0", x.taken(0), 2);
        Due.due("reaction 1 has no part 1, as reaction 0 has", x.taken(1), -1);
        x.put(0, 3);
        Due.due("reaction 0, part 0", x.taken(0), 0);
        Due.due("reaction 0, part 2", x.taken(2), 3);
        x.react(1);
        Due.due("reaction 1 again, part 0", x.taken(0), 2);
        Due.due("reaction 1 has no part 2, as reaction 0 had", x.taken(2), -1);
    }

    // ---- promise 16 ----

    private static void pendingByNumber() {
        Due.sentence("Promise 16: k is below 0 or not below the number of its PENDING messages");
        for (int pending = 0; pending <= 6; pending++) {
            for (int channel = 0; channel <= 2; channel += 2) {
                JoinVessel x = Vessels.sealed();
                x.put(1, 0);
                x.call(3, 0);
                for (int i = 0; i < pending; i++) {
                    Due.due("made", channel == 0 ? x.put(0, -i) : x.call(2, -i), i + 2);
                }
                String what = pending + " on channel " + channel;
                for (int k = 0; k <= 7; k++) {
                    Due.due(what + ", k " + k, x.pendingAt(channel, k), k < pending ? k + 2 : -1);
                }
                for (int k : WILD) {
                    Due.due(what + ", k " + k, x.pendingAt(channel, k), -1);
                }
            }
        }
    }

    private static void pendingInOrder() {
        Due.sentence("Promise 16: 0 the one with the least number");
        JoinVessel x = Vessels.sealed();
        for (int m = 0; m < 6; m++) {
            x.call(2, -m);
        }
        x.withdraw(0);
        x.withdraw(3);
        x.call(2, 9);
        int[] left = {1, 2, 4, 5, 6, -1, -1};
        for (int k = 0; k < 7; k++) {
            Due.due("behind two that were withdrawn, k " + k, x.pendingAt(2, k), left[k]);
        }
    }

    private static void pendingOnNoChannel() {
        Due.sentence("Promise 16: NONE when there is no such channel");
        for (int count = 0; count <= 8; count++) {
            JoinVessel x = new JoinVessel();
            x.reaction();
            for (int c = 0; c < count; c++) {
                x.channel(false);
                x.part(0, c, 0, 0);
            }
            x.seal();
            for (int c = 0; c < count; c++) {
                x.put(c, 0);
            }
            for (int c = 0; c <= 9; c++) {
                Due.due("channel " + c + " of " + count, x.pendingAt(c, 0), c < count ? c : -1);
            }
            for (int c : WILD) {
                Due.due("channel " + c + " of " + count, x.pendingAt(c, 0), -1);
                Due.due("channel " + c + " of " + count + ", and k", x.pendingAt(c, c), -1);
            }
        }
        Due.due("not sealed", Vessels.withParts(1).pendingAt(0, 0), -1);
    }

    // ---- promises 17 to 20 ----

    private static void dueNoMessage(String what, JoinVessel x, int m) {
        Due.sentence("Promise 17: 0 when there is none");
        Due.due(what + ", message " + m, x.value(m), 0);
        Due.sentence("Promise 18: 0 when there is none");
        Due.due(what + ", message " + m, x.state(m), 0);
        Due.sentence("Promise 19: or there is no message m");
        Due.due(what + ", message " + m, x.consumer(m), -1);
        Due.sentence("Promise 20: or there is no message m");
        Due.due(what + ", message " + m, x.answer(m), 0);
    }

    private static void noSuchMessage() {
        for (int m : WILD) {
            dueNoMessage("a new object", new JoinVessel(), m);
        }
        dueNoMessage("a new object", new JoinVessel(), 0);
        JoinVessel x = Vessels.sealed();
        dueNoMessage("a sealed vessel", x, 0);
        x.call(2, 3);
        x.react(1);
        Due.due("the one that is there", x.answer(0), 3);
        for (int m : WILD) {
            dueNoMessage("one message", x, m);
        }
        dueNoMessage("one message", x, 1);
        dueNoMessage("one message", x, 299);
    }

    private static void noMessageBehindTheLast() {
        JoinVessel full = Vessels.sealed();
        Vessels.makeMessages(full, 299);
        dueNoMessage("299 messages", full, 299);
        full.call(2, 7);
        full.react(1);
        for (int m : WILD) {
            dueNoMessage("300 messages", full, m);
        }
        Due.sentence("Promise 20: The answer that message m has got");
        Due.due("the last one", full.answer(299), 7);
        Due.sentence("Promise 19: The number of the firing that consumed message m");
        Due.due("the last one", full.consumer(299), 299);
        Due.due("the first one", full.consumer(0), 0);
    }

    private static void valueOfEveryMessage() {
        Due.sentence("Promise 17: The value of message m");
        JoinVessel x = Vessels.sealed();
        int[] values = {LEAST, -1, 0, 1, MOST};
        for (int v : values) {
            x.put(0, v);
        }
        for (int m = 0; m < 5; m++) {
            Due.due("message " + m, x.value(m), values[m]);
        }
        x.react(5);
        for (int m = 0; m < 5; m++) {
            Due.due("CONSUMED, message " + m, x.value(m), values[m]);
        }
    }

    private static void statesOfMessages() {
        Due.sentence("Promise 18: 1 when message m is PENDING, 2 when it is CONSUMED, 3 when it is WITHDRAWN");
        JoinVessel x = Vessels.sealed();
        x.call(2, 0);
        x.call(3, 0);
        x.put(1, 0);
        x.react(1);
        x.withdraw(1);
        Due.due("CONSUMED", x.state(0), 2);
        Due.due("WITHDRAWN", x.state(1), 3);
        Due.due("PENDING", x.state(2), 1);
    }

    private static void noConsumer() {
        Due.sentence("Promise 19: NONE when none did");
        JoinVessel x = Vessels.sealed();
        x.put(1, 0);
        x.call(3, 0);
        x.call(3, 0);
        x.put(0, 0);
        x.withdraw(2);
        x.react(5);
        Due.due("PENDING", x.consumer(0), -1);
        Due.due("a PENDING call", x.consumer(1), -1);
        Due.due("WITHDRAWN", x.consumer(2), -1);
        Due.due("CONSUMED by firing 0", x.consumer(3), 0);
    }

    private static void noAnswer() {
        Due.sentence("Promise 20: 0 when it has none");
        JoinVessel x = Vessels.sealed();
        x.put(0, 5);
        x.put(1, 5);
        x.call(3, 5);
        x.call(2, 5);
        x.call(2, 6);
        x.withdraw(3);
        Due.due("a call before it is taken", x.answer(4), 0);
        x.react(5);
        Due.due("on a PLAIN channel, CONSUMED", x.answer(0), 0);
        Due.due("on a PLAIN channel, PENDING", x.answer(1), 0);
        Due.due("a PENDING call", x.answer(2), 0);
        Due.due("a WITHDRAWN call", x.answer(3), 0);
        Due.due("a CONSUMED call has one", x.answer(4), 6);
        for (int v : new int[] {LEAST, -1, 0, MOST}) {
            JoinVessel y = Vessels.sealed();
            y.call(2, v);
            y.react(1);
            Due.due("the answer " + v, y.answer(0), v);
        }
    }

    // ---- promise 21 ----

    private static void noSuchFiring() {
        Due.sentence("Promise 21: NONE when there was no such firing");
        for (int fired = 0; fired <= 12; fired++) {
            JoinVessel x = Vessels.sealed();
            for (int k = 0; k < fired; k++) {
                if (k % 3 == 0) {
                    x.put(0, k);
                } else {
                    x.call(2, k);
                }
                x.react(1);
            }
            for (int k = 0; k < 15; k++) {
                int want = k >= fired ? -1 : k % 3 == 0 ? 0 : 1;
                Due.due("firing " + k + " of " + fired, x.fired(k), want);
            }
            for (int k : WILD) {
                Due.due("firing " + k + " of " + fired, x.fired(k), -1);
            }
            x.react(5);
            Due.due("nothing fired", x.fired(fired), -1);
        }
        JoinVessel full = Vessels.sealed();
        Vessels.makeMessages(full, 299);
        Due.due("299 firings, the last", full.fired(298), 0);
        Due.due("299 firings, no other", full.fired(299), -1);
        full.call(2, 0);
        full.react(1);
        Due.due("300 firings, the last", full.fired(299), 1);
        for (int k : WILD) {
            Due.due("firing " + k + " of 300", full.fired(k), -1);
        }
    }
}
