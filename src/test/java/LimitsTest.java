/**
 * 'What it is' and 'Terms', how many there may be: calls, channels, reactions, parts, actions,
 * messages and PENDING messages, and ROOM, each under the words of the document that name it.
 */
public final class LimitsTest {
    private static final String RUN = "An object is used for at most 512 calls after it has been made";
    private static final int CALLS = 512;
    private static final String MADE = "MESSAGES are numbered 0, 1, .. as they are made, at most 300 in all";
    private static final String FULL = "A channel has at most 6 PENDING messages.";
    private static final String ROOM = "its firing would leave no channel with more than 6 PENDING messages";

    public static void main(String[] args) {
        Due.run(
                LimitsTest::runOf300Firings,
                LimitsTest::runOfReactions,
                LimitsTest::runOfWithdrawals,
                LimitsTest::runOfTheDearestCalls,
                LimitsTest::callsBehindTheLast,
                LimitsTest::channels,
                LimitsTest::channelsOfBothKinds,
                LimitsTest::reactions,
                LimitsTest::parts,
                LimitsTest::actions,
                LimitsTest::actionsInOrder,
                LimitsTest::sameChannelForSeveralParts,
                LimitsTest::messagesPut,
                LimitsTest::messagesSent,
                LimitsTest::messagesKeepTheirNumbers,
                LimitsTest::valuesNeverChange,
                LimitsTest::statesAreForEver,
                () -> pendingOnAChannel("put", false),
                () -> pendingOnAChannel("call", true),
                LimitsTest::pendingThatWereSent,
                LimitsTest::oneAnswer,
                LimitsTest::roomOnTheChannels,
                LimitsTest::roomOnEveryChannel,
                LimitsTest::roomForMessages,
                LimitsTest::roomAndAMatch,
                LimitsTest::notSealed);
    }

    // ---- calls ----

    /** One channel and one reaction, which takes a message from it: made with 4 calls. */
    private static JoinVessel taker() {
        JoinVessel x = new JoinVessel();
        x.channel(false);
        x.reaction();
        x.part(0, 0, 0, 0);
        x.seal();
        return x;
    }

    private static void runOf300Firings() {
        Due.sentence(RUN);
        JoinVessel x = taker();
        int calls = 4;
        for (int m = 0; m < 300; m++) {
            Due.due("put " + m, x.put(0, -m), m);
            calls++;
            if (m % 5 == 4) {
                Due.due("react behind " + m, x.react(5), 5);
                calls++;
            }
        }
        for (int m = 299; calls < CALLS; calls += 4) {
            Due.due("state of " + m, x.state(m), 2);
            Due.due("consumer of " + m, x.consumer(m), m);
            Due.due("value of " + m, x.value(m), -m);
            Due.due("firing " + m, x.fired(m), 0);
            m -= 8;
        }
        Due.due("calls", calls, CALLS);
    }

    private static void runOfReactions() {
        Due.sentence(RUN);
        JoinVessel x = new JoinVessel();
        x.channel(false);
        x.reaction();
        x.part(0, 0, 0, 0);
        x.emit(0, 0, 1, 0, 1);
        x.seal();
        x.put(0, 1000);
        int fired = 0;
        for (int calls = 6; calls < CALLS - 2; calls++) {
            int want = Math.min(5, 299 - fired);
            Due.due("react behind " + fired + " firings", x.react(5), want);
            fired += want;
        }
        Due.due("the last message", x.value(299), 1299);
        Due.due("call 512, the last firing", x.fired(298), 0);
    }

    private static void runOfWithdrawals() {
        Due.sentence(RUN);
        JoinVessel x = new JoinVessel();
        x.channel(true);
        x.reaction();
        x.part(0, 0, 0, 0);
        x.reply(0, 0, 0, 0, 0);
        x.seal();
        int m = 0;
        for (int calls = 5; calls + 2 <= CALLS; calls += 2) {
            Due.due("call " + m, x.call(0, m), m);
            Due.due("withdraw " + m, x.withdraw(m), true);
            m++;
        }
        Due.due("call 512", x.pendingAt(0, 0), -1);
    }

    /** Full channels, eight reactions of four parts each, and guards of which none holds in the end. */
    private static void runOfTheDearestCalls() {
        Due.sentence(RUN);
        JoinVessel x = new JoinVessel();
        int calls = 0;
        for (int c = 0; c < 4; c++) {
            x.channel(false);
            calls++;
        }
        for (int r = 0; r < 8; r++) {
            x.reaction();
            for (int part = 0; part < 4; part++) {
                x.part(r, part, 0, 0);
            }
            x.guard(r, 5, 1000);
            calls += 6;
        }
        x.seal();
        for (int i = 0; i < 24; i++) {
            x.put(i % 4, 1);
        }
        calls += 25;
        for (; calls + 4 <= CALLS; calls += 4) {
            Due.due("enabled", x.enabled(), 0);
            Due.due("next", x.next(), -1);
            Due.due("taken", x.taken(0), -1);
            Due.due("react", x.react(5), 0);
        }
    }

    /** What they answer is free, but none of them may throw or fail to end. */
    private static void callsBehindTheLast() {
        Due.sentence("what later calls answer is free");
        JoinVessel x = taker();
        int[] numbers = {0, 1, 5, 299, 300, 511, 512, 513, -1, Integer.MIN_VALUE, Integer.MAX_VALUE};
        for (int i = 0; i < 4000; i++) {
            int n = numbers[i % numbers.length];
            x.put(0, n);
            x.react(i % 6);
            x.call(n, i);
            x.withdraw(n);
            x.taken(n);
            x.pendingAt(0, n);
            x.fired(n);
            x.consumer(n);
            x.part(0, n, 0, 0);
            x.channel(true);
            x.reaction();
        }
        Due.due("it came to its end", true, true);
    }

    // ---- building ----

    private static void channels() {
        Due.sentence("CHANNELS are numbered 0, 1, .. as they are added, at most 8");
        JoinVessel x = new JoinVessel();
        for (int c = 0; c < 8; c++) {
            Due.due("channel " + c, x.channel(c > 4), c);
        }
        Due.due("a ninth, PLAIN", x.channel(false), -1);
        Due.due("a ninth, ANSWERED", x.channel(true), -1);
        x.reaction();
        Due.due("a part on the last", x.part(0, 7, 0, 0), 0);
        Due.due("no part on a ninth", x.part(0, 8, 0, 0), -1);
        x.reply(0, 0, 0, 0, 12);
        x.seal();
        Due.due("a call on the last", x.call(7, 5), 0);
        Due.due("it is taken", x.react(1), 1);
        Due.due("and answered", x.answer(0), 12);
    }

    private static void channelsOfBothKinds() {
        Due.sentence("each is PLAIN or ANSWERED");
        for (int pattern = 0; pattern < 256; pattern++) {
            JoinVessel x = new JoinVessel();
            for (int c = 0; c < 8; c++) {
                x.channel((pattern >> c) % 2 == 1);
            }
            x.reaction();
            x.part(0, 0, 0, 0);
            x.reply(0, 0, 0, 0, 0);
            x.seal();
            for (int c = 0; c < 8; c++) {
                boolean answered = (pattern >> c) % 2 == 1;
                Due.due("put on " + c + " of " + pattern, x.put(c, 0), answered ? -1 : c);
                Due.due("call on " + c + " of " + pattern, x.call(c, 0), answered ? c : -1);
            }
        }
    }

    private static void reactions() {
        Due.sentence("REACTIONS are numbered 0, 1, .. likewise, at most 8");
        JoinVessel x = new JoinVessel();
        x.channel(false);
        for (int r = 0; r < 8; r++) {
            Due.due("reaction " + r, x.reaction(), r);
            Due.due("a part of " + r, x.part(r, 0, 1, r), 0);
        }
        Due.due("a ninth", x.reaction(), -1);
        Due.due("no part of a ninth", x.part(8, 0, 0, 0), -1);
        Due.due("sealed", x.seal(), 0);
        for (int r = 7; r >= 0; r--) {
            x.put(0, r);
            Due.due("enabled, " + r, x.enabled(), 1 << r);
            Due.due("fires, " + r, x.react(5), 1);
            Due.due("fired, " + r, x.fired(7 - r), r);
        }
    }

    private static void parts() {
        Due.sentence("A reaction has PARTS 0, 1, .. (at most 4)");
        JoinVessel x = Vessels.withChannels();
        x.reaction();
        x.reaction();
        for (int part = 0; part < 4; part++) {
            Due.due("part " + part + " of 0", x.part(0, 0, 0, 0), part);
            Due.due("part " + part + " of 1", x.part(1, 1, 0, 0), part);
        }
        Due.due("a fifth of 0", x.part(0, 0, 0, 0), -1);
        Due.due("a fifth of 1", x.part(1, 1, 0, 0), -1);
        x.seal();
        for (int m = 0; m < 5; m++) {
            Due.due("enabled with " + m, x.enabled(), m < 4 ? 0 : 1);
            x.put(0, m);
        }
        Due.due("the last part takes", x.taken(3), 3);
        Due.due("no fifth", x.taken(4), -1);
        x.react(1);
        Due.due("the fourth message was taken", x.state(3), 2);
        Due.due("the fifth was not", x.state(4), 1);
    }

    private static void actions() {
        Due.sentence("a row of at most 4 ACTIONS");
        for (int pattern = 0; pattern < 16; pattern++) {
            JoinVessel x = Vessels.withChannels();
            x.reaction();
            for (int part = 0; part < 4; part++) {
                x.part(0, 2, 0, 0);
            }
            for (int a = 0; a < 4; a++) {
                boolean sends = (pattern >> a) % 2 == 1;
                boolean added = sends ? x.emit(0, 0, 0, 0, a) : x.reply(0, a, 0, 0, a);
                Due.due("action " + a + " of " + pattern, added, true);
            }
            Due.due("a fifth that sends, of " + pattern, x.emit(0, 0, 0, 0, 0), false);
            for (int part = 0; part < 4; part++) {
                Due.due("a fifth that answers, of " + pattern, x.reply(0, part, 0, 0, 0), false);
            }
            Due.due("the fifth is not there, of " + pattern, x.seal(), pattern == 0 ? 0 : 4);
        }
    }

    private static void actionsInOrder() {
        Due.sentence("each in the order in which they were added");
        JoinVessel x = Vessels.withChannels();
        x.reaction();
        x.part(0, 2, 0, 0);
        x.emit(0, 1, 0, 0, 11);
        x.reply(0, 0, 0, 0, 12);
        x.emit(0, 0, 0, 0, 13);
        x.emit(0, 1, 0, 0, 14);
        x.seal();
        x.call(2, 0);
        x.react(1);
        Due.due("the first that sends", x.value(1), 11);
        Due.due("the second that sends", x.value(2), 13);
        Due.due("the third that sends", x.value(3), 14);
        Due.due("the first, its place", x.pendingAt(1, 0), 1);
        Due.due("the second, its place", x.pendingAt(0, 0), 2);
        Due.due("the third, its place", x.pendingAt(1, 1), 3);
        Due.due("an answer is no message", x.state(4), 0);
        Due.due("the answer", x.answer(0), 12);
    }

    private static void sameChannelForSeveralParts() {
        Due.sentence("Several parts may have the same channel.");
        JoinVessel x = Vessels.withChannels();
        x.reaction();
        for (int part = 0; part < 4; part++) {
            Due.due("part " + part, x.part(0, 3, 0, 0), part);
            Due.due("answered " + part, x.reply(0, part, 1, part, 100), true);
        }
        x.seal();
        for (int m = 0; m < 4; m++) {
            x.call(3, m);
        }
        Due.due("fires", x.react(5), 1);
        for (int m = 0; m < 4; m++) {
            Due.due("the answer to " + m, x.answer(m), 100 + m);
        }
    }

    // ---- messages ----

    private static void messagesPut() {
        Due.sentence(MADE);
        JoinVessel x = Vessels.sealed();
        Vessels.makeMessages(x, 298);
        Due.due("number 298", x.put(0, 1), 298);
        Due.due("number 299", x.call(2, 2), 299);
        Due.due("no number 300, put", x.put(0, 3), -1);
        Due.due("no number 300, put elsewhere", x.put(1, 3), -1);
        Due.due("no number 300, call", x.call(2, 3), -1);
        Due.due("no number 300, call elsewhere", x.call(3, 3), -1);
        Due.due("all are taken", x.react(5), 2);
        Due.due("no number 300 still, put", x.put(0, 3), -1);
        Due.due("no number 300 still, call", x.call(2, 3), -1);
        Due.due("the last", x.value(299), 2);
        Due.due("none behind it", x.state(300), 0);
    }

    private static void messagesSent() {
        Due.sentence(MADE);
        JoinVessel x = Vessels.withParts(1);
        for (int a = 0; a < 4; a++) {
            x.emit(0, 1, 0, 0, a);
        }
        x.reaction();
        x.part(1, 1, 0, 0);
        x.seal();
        int made = 0;
        for (int round = 0; round < 60; round++) {
            Due.due("the number behind those sent", x.put(0, 9), made);
            Due.due("all five are taken", x.react(5), 5);
            made += 5;
        }
        Due.due("the last that was sent", x.value(299), 3);
        Due.due("no number 300", x.put(0, 9), -1);
    }

    private static void messagesKeepTheirNumbers() {
        Due.sentence(MADE);
        JoinVessel x = Vessels.sealed();
        Due.due("number 0", x.call(2, 0), 0);
        x.withdraw(0);
        Due.due("a withdrawn one keeps its number", x.put(0, 0), 1);
        x.react(1);
        Due.due("a consumed one keeps its number", x.put(0, 0), 2);
        x.put(2, 0);
        Due.due("a refused one gets none", x.put(1, 0), 3);
    }

    private static void valuesNeverChange() {
        Due.sentence("a value (an int) that never changes");
        JoinVessel x = Vessels.sealed();
        int[] values = {Integer.MIN_VALUE, Integer.MAX_VALUE, -1};
        x.put(0, values[0]);
        x.call(2, values[1]);
        x.call(3, values[2]);
        for (int turn = 0; turn < 2; turn++) {
            for (int m = 0; m < 3; m++) {
                Due.due("value of " + m + ", turn " + turn, x.value(m), values[m]);
            }
            x.react(5);
            x.withdraw(2);
            x.put(0, 77);
            x.call(2, 78);
        }
    }

    private static void statesAreForEver() {
        Due.sentence("is PENDING at first, later perhaps CONSUMED or WITHDRAWN, for ever then");
        JoinVessel x = Vessels.sealed();
        x.call(2, 1);
        x.call(2, 2);
        x.call(3, 3);
        for (int m = 0; m < 3; m++) {
            Due.due("at first, " + m, x.state(m), 1);
        }
        x.withdraw(1);
        for (int turn = 0; turn < 3; turn++) {
            x.react(5);
            x.withdraw(0);
            x.withdraw(1);
            Due.due("CONSUMED, turn " + turn, x.state(0), 2);
            Due.due("by the first firing, turn " + turn, x.consumer(0), 0);
            Due.due("WITHDRAWN, turn " + turn, x.state(1), 3);
            Due.due("by no firing, turn " + turn, x.consumer(1), -1);
            Due.due("PENDING, turn " + turn, x.state(2), 1);
            x.call(2, 4);
        }
    }

    private static int make(JoinVessel x, int channel, boolean answered) {
        return answered ? x.call(channel, 0) : x.put(channel, 0);
    }

    private static void pendingOnAChannel(String call, boolean answered) {
        Due.sentence(FULL);
        JoinVessel x = Vessels.sealed();
        int channel = answered ? 2 : 0;
        for (int m = 0; m < 6; m++) {
            Due.due(call + " " + m, make(x, channel, answered), m);
        }
        Due.due(call + ", a seventh", make(x, channel, answered), -1);
        for (int c = 0; c < 4; c++) {
            Due.due("another channel, " + c, make(x, c, c >= 2) != -1, c != channel);
        }
        // Both reactions fire, and one of them takes from this channel.
        x.react(2);
        Due.due(call + ", one was taken", make(x, channel, answered), 9);
        Due.due(call + ", six again", make(x, channel, answered), -1);
        if (answered) {
            x.withdraw(9);
            Due.due(call + ", one was withdrawn", make(x, channel, true), 10);
            Due.due(call + ", six once more", make(x, channel, true), -1);
        }
    }

    private static void pendingThatWereSent() {
        Due.sentence(FULL);
        JoinVessel x = Vessels.withParts(1);
        for (int a = 0; a < 4; a++) {
            x.emit(0, 1, 0, 0, a);
        }
        x.seal();
        x.put(0, 0);
        x.react(1);
        Due.due("a fifth behind four that were sent", x.put(1, 0), 5);
        Due.due("a sixth", x.put(1, 0), 6);
        Due.due("a seventh", x.put(1, 0), -1);
    }

    private static void oneAnswer() {
        Due.sentence("it may get an ANSWER, once");
        JoinVessel x = Vessels.withChannels();
        x.reaction();
        x.part(0, 2, 0, 0);
        Due.due("an action that answers", x.reply(0, 0, 0, 0, 41), true);
        Due.due("a second that answers the same part", x.reply(0, 0, 0, 0, 42), false);
        x.seal();
        x.call(2, 0);
        Due.due("none at first", x.answer(0), 0);
        x.react(1);
        Due.due("the answer", x.answer(0), 41);
        x.call(2, 0);
        x.react(5);
        Due.due("the answer for ever", x.answer(0), 41);
    }

    // ---- room ----

    private static void roomOnTheChannels() {
        Due.sentence(ROOM);
        for (int pending = 0; pending <= 6; pending++) {
            for (int parts = 0; parts <= 3; parts++) {
                for (int sends = 0; sends <= 4; sends++) {
                    roomOnAChannel(pending, parts, sends);
                }
            }
        }
    }

    /** Reaction 0 takes one message from channel 0; it takes so many from channel 1 and sends so many there. */
    private static void roomOnAChannel(int pending, int parts, int sends) {
        JoinVessel x = Vessels.withParts(1);
        for (int i = 0; i < parts; i++) {
            x.part(0, 1, 0, 0);
        }
        for (int i = 0; i < sends; i++) {
            x.emit(0, 1, 0, 0, 0);
        }
        x.seal();
        x.put(0, 0);
        for (int i = 0; i < pending; i++) {
            x.put(1, 0);
        }
        String what = pending + " PENDING, " + parts + " taken, " + sends + " sent";
        int left = pending - parts + sends;
        boolean want = pending >= parts && left <= 6;
        Due.due(what + ", enabled", x.enabled(), want ? 1 : 0);
        Due.due(what + ", next", x.next(), want ? 0 : -1);
        Due.due(what + ", taken", x.taken(0), want ? 0 : -1);
        Due.due(what + ", react", x.react(5), want ? 1 : 0);
        int now = want ? left : pending;
        Due.due(what + ", the last one left", x.pendingAt(1, now - 1) != -1, now > 0);
        Due.due(what + ", none behind it", x.pendingAt(1, now), -1);
    }

    private static void roomOnEveryChannel() {
        Due.sentence(ROOM);
        for (int full = 0; full < 8; full++) {
            JoinVessel x = new JoinVessel();
            for (int c = 0; c < 8; c++) {
                x.channel(false);
            }
            int taken = full == 0 ? 1 : 0;
            x.reaction();
            x.part(0, taken, 0, 0);
            x.emit(0, full, 0, 0, 0);
            x.reaction();
            x.part(1, taken, 0, 0);
            x.emit(1, 7 - full, 0, 0, 0);
            x.seal();
            x.put(taken, 0);
            for (int i = 0; i < 6; i++) {
                x.put(full, i);
            }
            Due.due("channel " + full + " full, and sent to", x.enabled(), 2);
        }
    }

    private static void roomForMessages() {
        Due.sentence("would not bring the number of messages made beyond 300");
        for (int made = 294; made <= 300; made++) {
            for (int sends = 0; sends <= 4; sends++) {
                JoinVessel x = Vessels.withParts(1);
                x.reaction();
                x.part(1, 1, 0, 0);
                x.part(1, 2, 0, 0);
                x.reply(1, 1, 0, 0, 0);
                for (int i = 0; i < Math.min(3, sends); i++) {
                    x.emit(1, i % 2, 0, 0, 0);
                }
                x.reaction();
                x.part(2, 1, 0, 0);
                for (int i = 0; i < sends; i++) {
                    x.emit(2, i % 2, 0, 0, 0);
                }
                x.seal();
                Vessels.makeMessages(x, made - 2);
                x.put(1, 0);
                x.call(2, 0);
                // Three are the most that can be sent beside the one answer, which makes no message.
                int set = (made + Math.min(3, sends) <= 300 ? 2 : 0) + (made + sends <= 300 ? 4 : 0);
                Due.due(made + " made, " + sends + " sent", x.enabled(), set);
            }
        }
    }

    private static void roomAndAMatch() {
        Due.sentence("It is ENABLED when it has room and a match.");
        for (int i = 0; i < 4; i++) {
            boolean room = i % 2 == 1;
            boolean match = i / 2 == 1;
            JoinVessel x = Vessels.withChannels();
            x.reaction();
            x.part(0, 0, 1, 7);
            x.emit(0, 1, 0, 0, 0);
            x.seal();
            x.put(0, match ? 7 : 8);
            for (int m = 0; m < (room ? 5 : 6); m++) {
                x.put(1, 0);
            }
            String what = (room ? "room, " : "no room, ") + (match ? "a match" : "no match");
            Due.due(what, x.enabled(), room && match ? 1 : 0);
            Due.due(what + ", react", x.react(5), room && match ? 1 : 0);
        }
    }

    private static void notSealed() {
        Due.sentence("A vessel that is not sealed has nothing enabled.");
        for (int parts = 0; parts <= 4; parts++) {
            JoinVessel x = Vessels.withParts(parts);
            Due.due("enabled, " + parts + " parts", x.enabled(), 0);
            Due.due("next, " + parts + " parts", x.next(), -1);
            Due.due("taken, " + parts + " parts", x.taken(0), -1);
        }
    }
}
