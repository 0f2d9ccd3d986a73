/**
 * 'Terms', what comes first: the messages of a match, the FIRST match, the NEXT reaction, and what a
 * reaction that FIRES does, each under the words of the document that name it.
 */
public final class OrderTest {
    private static final String ROW = "a row of different PENDING messages";
    private static final String BEHIND =
            "with the one behind that which fired last, goes on to the highest number, and then from 0 on";

    public static void main(String[] args) {
        Due.run(
                OrderTest::differentMessages,
                OrderTest::pendingMessages,
                OrderTest::messagesOnThePartsChannel,
                OrderTest::valuesThatPass,
                OrderTest::valuesOfWhichTheGuardHolds,
                OrderTest::leastForPart0,
                OrderTest::leastForPart1,
                OrderTest::leastForTheOtherParts,
                OrderTest::nextBeforeAnyFired,
                OrderTest::nextBehindTheLast,
                OrderTest::nextOfOneReaction,
                OrderTest::nextIsNotMovedByOthers,
                OrderTest::firingConsumes,
                OrderTest::firingSends,
                OrderTest::firingTakesBeforeItSends,
                OrderTest::firingAnswers);
    }

    // ---- matches ----

    private static void differentMessages() {
        Due.sentence(ROW);
        for (int parts = 1; parts <= 4; parts++) {
            for (int kind = 0; kind <= 2; kind += 2) {
                JoinVessel x = Vessels.withParts(parts);
                x.guard(0, kind, 0);
                x.seal();
                for (int m = 0; m < parts; m++) {
                    Due.due(m + " messages for " + parts + " parts", x.enabled(), 0);
                    x.put(0, 5);
                }
                Due.due("as many messages as parts, " + parts, x.enabled(), 1);
                for (int part = 0; part < parts; part++) {
                    Due.due("of " + parts + ", part " + part, x.taken(part), part);
                }
            }
        }
        differentMessagesOfTwoChannels();
    }

    /** Parts 0 and 2 share a channel, with another part between them. */
    private static void differentMessagesOfTwoChannels() {
        JoinVessel x = Vessels.withParts(1);
        x.part(0, 1, 0, 0);
        x.part(0, 0, 0, 0);
        x.seal();
        x.put(0, 5);
        x.put(1, 5);
        Due.due("one message for parts 0 and 2", x.enabled(), 0);
        x.put(0, 5);
        Due.due("two messages for parts 0 and 2", x.enabled(), 1);
        Due.due("part 0", x.taken(0), 0);
        Due.due("part 2", x.taken(2), 2);
    }

    private static void pendingMessages() {
        Due.sentence(ROW);
        JoinVessel x = Vessels.sealed();
        x.call(2, 1);
        x.call(2, 2);
        x.call(2, 3);
        x.withdraw(0);
        Due.due("a withdrawn one is passed over", x.taken(0), 1);
        x.react(1);
        Due.due("a consumed one is passed over", x.taken(0), 2);
        x.withdraw(2);
        Due.due("none is left", x.enabled(), 0);
    }

    private static void messagesOnThePartsChannel() {
        Due.sentence("one for each part, on that part's channel");
        JoinVessel x = new JoinVessel();
        for (int c = 0; c < 8; c++) {
            x.channel(false);
        }
        for (int r = 0; r < 8; r++) {
            x.reaction();
            x.part(r, r, 0, 0);
            x.part(r, (r + 1) % 8, 0, 0);
        }
        x.seal();
        x.put(3, 0);
        Due.due("one channel alone", x.enabled(), 0);
        x.put(5, 0);
        Due.due("two channels that no reaction joins", x.enabled(), 0);
        x.put(4, 0);
        Due.due("three channels", x.enabled(), (1 << 3) + (1 << 4));
        Due.due("part 0 of reaction 3", x.taken(0), 0);
        Due.due("part 1 of reaction 3", x.taken(1), 2);
    }

    private static void valuesThatPass() {
        Due.sentence("with a value that passes its test");
        JoinVessel x = Vessels.withChannels();
        x.reaction();
        x.part(0, 0, 1, 4);
        x.part(0, 0, 2, 4);
        x.part(0, 0, 3, 6);
        x.part(0, 0, 4, 5);
        x.seal();
        int[] values = {3, 4, 5, 6};
        for (int v : values) {
            x.put(0, v);
        }
        int[] taken = {1, 0, 3, 2};
        for (int part = 0; part < 4; part++) {
            Due.due("part " + part, x.taken(part), taken[part]);
        }
        JoinVessel y = Vessels.withParts(1);
        y.part(0, 0, 1, 4);
        y.seal();
        y.put(0, 4);
        y.put(0, 5);
        Due.due("part 0 takes another one than part 1 needs", y.taken(0), 1);
        Due.due("part 1 takes the only one that passes", y.taken(1), 0);
    }

    private static void valuesOfWhichTheGuardHolds() {
        Due.sentence("of whose values the guard holds");
        JoinVessel x = Vessels.withParts(2);
        x.guard(0, 1, 0);
        x.seal();
        x.put(0, 8);
        x.put(0, 8);
        Due.due("equal values", x.enabled(), 0);
        x.put(0, 7);
        Due.due("a lesser one", x.enabled(), 1);
        Due.due("the lesser one for part 0", x.taken(0), 2);
        Due.due("the first of the others for part 1", x.taken(1), 0);
    }

    private static void leastForPart0() {
        Due.sentence("The FIRST match is the one whose message for part 0 has the least number");
        JoinVessel x = Vessels.withChannels();
        x.reaction();
        x.part(0, 1, 0, 0);
        x.part(0, 0, 0, 0);
        x.guard(0, 2, 0);
        x.seal();
        x.put(0, 8);
        x.put(1, 9);
        x.put(1, 8);
        x.put(0, 9);
        Due.due("part 0, though part 1 takes a greater number", x.taken(0), 1);
        Due.due("part 1", x.taken(1), 3);
        for (int from = 0; from < 6; from++) {
            JoinVessel y = Vessels.withChannels();
            y.reaction();
            y.part(0, 0, 3, 10);
            y.seal();
            for (int m = 0; m < 6; m++) {
                y.put(0, m >= from ? 20 - m : m);
            }
            Due.due("the first of those that pass", y.taken(0), from);
        }
    }

    private static void leastForPart1() {
        Due.sentence("of several, the one whose message for part 1 has the least");
        JoinVessel x = Vessels.withParts(3);
        x.guard(0, 4, 10);
        x.seal();
        int[] values = {9, 4, 4, 3, 3, 2};
        for (int v : values) {
            x.put(0, v);
        }
        // Message 0 is in no match; 1 with 2 leaves place for 5 alone, 1 with 3 would leave it for 4.
        Due.due("part 0", x.taken(0), 1);
        Due.due("part 1", x.taken(1), 2);
        Due.due("part 2", x.taken(2), 5);
        x.react(1);
        int[] states = {1, 2, 2, 1, 1, 2};
        for (int m = 0; m < 6; m++) {
            Due.due("the state of " + m, x.state(m), states[m]);
        }
        JoinVessel y = Vessels.withChannels();
        y.reaction();
        y.part(0, 0, 3, 5);
        y.part(0, 0, 0, 0);
        y.seal();
        y.put(0, 1);
        y.put(0, 9);
        y.put(0, 2);
        Due.due("part 0 behind part 1", y.taken(0), 1);
        Due.due("part 1 before part 0", y.taken(1), 0);
    }

    private static void leastForTheOtherParts() {
        Due.sentence("and so on");
        for (int last = 2; last < 4; last++) {
            JoinVessel x = new JoinVessel();
            x.reaction();
            for (int part = 0; part <= last; part++) {
                x.channel(false);
                x.part(0, part, 0, 0);
            }
            x.guard(0, 4, 3);
            x.seal();
            int made = 0;
            for (int k = 0; k < 5; k++) {
                for (int part = 0; part <= last; part++) {
                    // For the last part the values are 5 4 3 2 1, for the others 0.
                    x.put(part, part == last ? 5 - k : 0);
                    made++;
                }
            }
            Due.due("made", made, 5 * (last + 1));
            for (int part = 0; part < last; part++) {
                Due.due("of " + last + ", part " + part, x.taken(part), part);
            }
            Due.due("of " + last + ", the last part", x.taken(last), 2 * (last + 1) + last);
        }
    }

    // ---- the next reaction ----

    /** So many reactions, each of which takes from the channel with its number. */
    private static JoinVessel row(int count) {
        JoinVessel x = new JoinVessel();
        for (int r = 0; r < count; r++) {
            x.channel(false);
            x.reaction();
            x.part(r, r, 0, 0);
        }
        x.seal();
        return x;
    }

    private static void enable(JoinVessel x, int set) {
        for (int r = 0; r < 8; r++) {
            if ((set >> r) % 2 == 1) {
                x.put(r, 0);
            }
        }
    }

    private static int firstOf(int set, int from, int to) {
        for (int r = from; r < to; r++) {
            if ((set >> r) % 2 == 1) {
                return r;
            }
        }
        return -1;
    }

    private static void nextBeforeAnyFired() {
        Due.sentence("the first one in the order that begins with reaction 0");
        for (int set = 0; set < 256; set++) {
            JoinVessel x = row(8);
            enable(x, set);
            int want = firstOf(set, 0, 8);
            Due.due("set " + set, x.next(), want);
            Due.due("set " + set + ", react", x.react(1), want == -1 ? 0 : 1);
            Due.due("set " + set + ", fired", x.fired(0), want);
        }
    }

    private static void nextBehindTheLast() {
        Due.sentence(BEHIND);
        for (int count = 2; count <= 8; count += 3) {
            for (int last = 0; last < count; last++) {
                for (int set = 0; set < 1 << count; set++) {
                    JoinVessel x = row(count);
                    x.put(last, 0);
                    x.react(1);
                    enable(x, set);
                    int behind = firstOf(set, last + 1, count);
                    int want = behind != -1 ? behind : firstOf(set, 0, last + 1);
                    String what = last + " of " + count + " fired last, set " + set;
                    Due.due(what, x.next(), want);
                    x.react(1);
                    Due.due(what + ", fired", x.fired(1), want);
                }
            }
        }
    }

    private static void nextOfOneReaction() {
        Due.sentence(BEHIND);
        JoinVessel x = row(1);
        Due.due("one reaction, nothing enabled", x.next(), -1);
        for (int k = 0; k < 3; k++) {
            x.put(0, 0);
            Due.due("one reaction, firing " + k, x.next(), 0);
            x.react(1);
        }
        Due.due("one reaction, nothing left", x.next(), -1);
    }

    /** Only a firing moves the place where the order begins. */
    private static void nextIsNotMovedByOthers() {
        Due.sentence(BEHIND);
        JoinVessel x = row(3);
        enable(x, 7);
        x.react(1);
        for (int i = 0; i < 3; i++) {
            Due.due("next", x.next(), 1);
            Due.due("taken", x.taken(0), 1);
            Due.due("enabled", x.enabled(), 6);
            Due.due("react 0", x.react(0), 0);
            Due.due("react 6", x.react(6), -1);
        }
        Due.due("react within one call", x.react(5), 2);
        Due.due("1 fired second", x.fired(1), 1);
        Due.due("2 fired third", x.fired(2), 2);
        Due.due("nothing fires", x.react(5), 0);
        enable(x, 7);
        Due.due("behind the highest", x.next(), 0);
    }

    // ---- firing ----

    private static void firingConsumes() {
        Due.sentence("the messages of its first match become CONSUMED by this FIRING (firings are numbered 0, 1, ..)");
        JoinVessel x = Vessels.withParts(2);
        x.seal();
        for (int m = 0; m < 5; m++) {
            x.put(0, m);
        }
        Due.due("two fire", x.react(5), 2);
        for (int m = 0; m < 5; m++) {
            Due.due("state of " + m, x.state(m), m < 4 ? 2 : 1);
            Due.due("consumer of " + m, x.consumer(m), m < 4 ? m / 2 : -1);
        }
        Due.due("firing 0", x.fired(0), 0);
        Due.due("firing 1", x.fired(1), 0);
        Due.due("no firing 2", x.fired(2), -1);
    }

    private static void firingSends() {
        Due.sentence("each one that SENDS makes a message with its value on its channel");
        JoinVessel x = Vessels.withParts(1);
        x.emit(0, 1, 1, 0, 1);
        x.emit(0, 0, 0, 0, 50);
        x.emit(0, 1, 1, 0, 2);
        x.emit(0, 1, 1, 0, 3);
        x.seal();
        x.put(0, 100);
        x.react(1);
        int[] values = {100, 101, 50, 102, 103};
        for (int m = 0; m < 5; m++) {
            Due.due("value of " + m, x.value(m), values[m]);
            Due.due("state of " + m, x.state(m), m == 0 ? 2 : 1);
            Due.due("consumer of " + m, x.consumer(m), m == 0 ? 0 : -1);
        }
        Due.due("channel 0", x.pendingAt(0, 0), 2);
        Due.due("channel 0, no second", x.pendingAt(0, 1), -1);
        Due.due("channel 1, first", x.pendingAt(1, 0), 1);
        Due.due("channel 1, second", x.pendingAt(1, 1), 3);
        Due.due("channel 1, third", x.pendingAt(1, 2), 4);
        Due.due("no more", x.state(5), 0);
    }

    private static void firingTakesBeforeItSends() {
        Due.sentence("then, in the order of the actions");
        JoinVessel x = Vessels.withParts(2);
        x.emit(0, 0, 1, 0, 100);
        x.emit(0, 0, 1, 1, 200);
        x.seal();
        for (int m = 0; m < 6; m++) {
            x.put(0, m);
        }
        Due.due("on a full channel", x.react(1), 1);
        int[] pending = {2, 3, 4, 5, 6, 7};
        for (int k = 0; k < 6; k++) {
            Due.due("PENDING " + k, x.pendingAt(0, k), pending[k]);
        }
        Due.due("the first sent", x.value(6), 100);
        Due.due("the second sent", x.value(7), 201);
    }

    private static void firingAnswers() {
        Due.sentence("each one that ANSWERS gives its value as the answer to the call taken by its part");
        JoinVessel x = Vessels.withChannels();
        x.reaction();
        x.part(0, 2, 1, 5);
        x.part(0, 3, 0, 0);
        x.part(0, 2, 1, 6);
        x.reply(0, 2, 0, 0, 102);
        x.reply(0, 0, 0, 0, 100);
        x.reply(0, 1, 3, 0, 0);
        x.seal();
        x.call(2, 6);
        x.call(2, 5);
        x.call(3, 7);
        x.call(3, 8);
        Due.due("fires", x.react(5), 1);
        Due.due("taken by part 2", x.answer(0), 102);
        Due.due("taken by part 0", x.answer(1), 100);
        Due.due("taken by part 1", x.answer(2), 18);
        Due.due("not taken", x.answer(3), 0);
        Due.due("no message is made", x.state(4), 0);
    }
}
