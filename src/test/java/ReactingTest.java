/** Promises 12 to 15 and 21, in ordinary use: reactions that fire by turns, and that wait for room. */
public final class ReactingTest {
    public static void main(String[] args) {
        Due.run(
                ReactingTest::theExampleOfTheReadme,
                ReactingTest::nextGoesRound,
                ReactingTest::roomOnChannels,
                ReactingTest::roomAfterTaking,
                ReactingTest::fullChannelsThatNothingIsSentTo,
                ReactingTest::roomForMessages,
                ReactingTest::firings);
    }

    private static void theExampleOfTheReadme() {
        JoinVessel x = new JoinVessel();
        int stock = x.channel(false);
        int order = x.channel(true);
        int sell = x.reaction();
        x.part(sell, stock, 3, 10);
        int asked = x.part(sell, order, 0, 0);
        Due.due("7 reply", x.reply(sell, asked, 1, 0, 5), true);
        Due.due("8 seal", x.seal(), 0);
        Due.due("9 message 0", x.put(stock, 8), 0);
        Due.due("9 message 1", x.put(stock, 42), 1);
        int c = x.call(order, 0);
        Due.due("10 message 2", c, 2);
        Due.due("13 reaction 0 alone", x.enabled(), 1);
        Due.due("15 part 0 takes", x.taken(0), 1);
        Due.due("12 one fires", x.react(5), 1);
        Due.due("20 the answer", x.answer(c), 47);
        Due.due("19 the first firing took it", x.consumer(c), 0);
    }

    /** So many reactions, each of which takes a message from channel 0. */
    private static JoinVessel rivals(int count) {
        JoinVessel x = new JoinVessel();
        x.channel(false);
        for (int r = 0; r < count; r++) {
            x.reaction();
            x.part(r, 0, 0, 0);
        }
        x.seal();
        return x;
    }

    private static void nextGoesRound() {
        JoinVessel x = rivals(3);
        Due.due("14 none", x.next(), -1);
        for (int i = 0; i < 6; i++) {
            x.put(0, i);
        }
        for (int k = 0; k < 5; k++) {
            Due.due("14 before firing " + k, x.next(), k % 3);
            Due.due("14 asked again", x.next(), k % 3);
            x.react(1);
            Due.due("21 firing " + k, x.fired(k), k % 3);
        }
        nextPassesOverWhatIsNotEnabled();
    }

    private static void nextPassesOverWhatIsNotEnabled() {
        JoinVessel x = new JoinVessel();
        for (int r = 0; r < 4; r++) {
            x.channel(false);
            x.reaction();
            x.part(r, r, 0, 0);
        }
        x.seal();
        x.put(2, 0);
        Due.due("14 over 0 and 1", x.next(), 2);
        x.react(1);
        x.put(1, 0);
        x.put(2, 0);
        Due.due("14 over 3 and 0", x.next(), 1);
        x.react(0);
        Due.due("14 nothing fired", x.next(), 1);
        x.react(1);
        Due.due("14 then 2", x.next(), 2);
        x.put(1, 0);
        x.react(1);
        x.put(2, 0);
        Due.due("14 the one that fired last comes last", x.next(), 1);
        x.react(1);
        x.react(1);
        x.put(2, 0);
        Due.due("14 it comes when no other is enabled", x.next(), 2);
        x.put(3, 0);
        x.react(1);
        x.put(0, 0);
        Due.due("14 behind the highest, 0", x.next(), 0);
    }

    private static void roomOnChannels() {
        JoinVessel x = Vessels.withParts(1);
        x.emit(0, 1, 0, 0, 0);
        x.emit(0, 1, 0, 0, 0);
        x.reaction();
        x.part(1, 1, 1, 9);
        x.seal();
        x.put(0, 5);
        for (int i = 0; i < 4; i++) {
            x.put(1, i);
        }
        Due.due("13 six would be PENDING", x.enabled(), 1);
        x.put(1, 9);
        Due.due("13 seven would be PENDING", x.enabled(), 2);
        Due.due("14 the one with room", x.next(), 1);
        Due.due("15 its message", x.taken(0), 5);
        Due.due("12 both fire", x.react(5), 2);
        Due.due("21 first 1", x.fired(0), 1);
        Due.due("21 then 0", x.fired(1), 0);
        Due.due("16 six are PENDING", x.pendingAt(1, 5), 7);
        x.put(0, 5);
        Due.due("13 no room", x.enabled(), 0);
        Due.due("14 no room", x.next(), -1);
        Due.due("15 no room", x.taken(0), -1);
        Due.due("12 no room", x.react(5), 0);
    }

    private static void roomAfterTaking() {
        JoinVessel x = Vessels.withParts(2);
        x.emit(0, 0, 1, 0, 100);
        x.emit(0, 0, 1, 1, 200);
        x.reaction();
        x.part(1, 0, 0, 0);
        x.emit(1, 0, 0, 0, 0);
        x.emit(1, 0, 0, 0, 0);
        x.seal();
        for (int i = 0; i < 6; i++) {
            x.put(0, i);
        }
        Due.due("13 what is taken makes room", x.enabled(), 1);
        Due.due("12 it fires", x.react(1), 1);
        Due.due("16 the fifth", x.pendingAt(0, 4), 6);
        Due.due("16 the sixth", x.pendingAt(0, 5), 7);
        Due.due("17 the fifth", x.value(6), 100);
        Due.due("17 the sixth", x.value(7), 201);
        Due.due("14 the other has no room", x.next(), 0);
    }

    private static void fullChannelsThatNothingIsSentTo() {
        JoinVessel x = Vessels.withChannels();
        x.channel(false);
        x.reaction();
        x.part(0, 4, 0, 0);
        x.emit(0, 1, 0, 0, 0);
        x.reaction();
        x.part(1, 2, 0, 0);
        x.reply(1, 0, 0, 0, 0);
        x.seal();
        x.put(4, 1);
        for (int i = 0; i < 6; i++) {
            x.put(0, i);
            x.call(2, i);
            x.call(3, i);
        }
        Due.due("13 full channels do not matter", x.enabled(), 3);
        Due.due("12 both fire", x.react(2), 2);
        Due.due("16 channel 0 is full still", x.pendingAt(0, 5) != -1, true);
    }

    private static void roomForMessages() {
        JoinVessel x = Vessels.withParts(1);
        for (int r = 1; r <= 3; r++) {
            x.reaction();
            x.part(r, 1, 0, 0);
            for (int a = 1; a < r; a++) {
                x.emit(r, 0, 0, 0, r);
            }
        }
        x.part(3, 2, 0, 0);
        x.reply(3, 1, 0, 0, 0);
        x.seal();
        Vessels.makeMessages(x, 296);
        x.put(1, 0);
        x.call(2, 0);
        Due.due("13 298 made, two more", x.enabled(), 14);
        x.put(1, 0);
        Due.due("13 299 made, one more; an answer is no message", x.enabled(), 6);
        x.put(1, 0);
        Due.due("13 300 made, none more", x.enabled(), 2);
        Due.due("14 300 made", x.next(), 1);
        Due.due("12 it still fires", x.react(5), 3);
        Due.due("21 as firing 298", x.fired(298), 1);
        Due.due("18 none was made", x.state(300), 0);
    }

    private static void firings() {
        JoinVessel x = rivals(2);
        Due.due("21 none", x.fired(0), -1);
        x.put(0, 1);
        x.put(0, 2);
        x.react(2);
        Due.due("21 firing 0", x.fired(0), 0);
        Due.due("21 firing 1", x.fired(1), 1);
        x.react(5);
        Due.due("21 nothing fired", x.fired(2), -1);
    }
}
