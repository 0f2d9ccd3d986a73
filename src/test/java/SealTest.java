import java.util.function.Consumer;

/** Promise 8: each of the numbers that seal answers, and which of several comes first. */
public final class SealTest {
    private static final String NO_ANSWER = "Promise 8: 4 a part of a reaction has an ANSWERED channel, and no action"
            + " of that reaction answers it";

    public static void main(String[] args) {
        Due.run(
                SealTest::sealedAlready,
                SealTest::noReaction,
                SealTest::noPart,
                SealTest::noAnswer,
                SealTest::answersThatDoNotCount,
                SealTest::noPartComesBeforeNoAnswer,
                SealTest::nothingChanges,
                SealTest::sealed);
    }

    /** Channel 0 is PLAIN, channel 1 ANSWERED; so many reactions, each with a part on channel 0. */
    private static void build(JoinVessel x, int reactions) {
        x.channel(false);
        x.channel(true);
        for (int r = 0; r < reactions; r++) {
            x.reaction();
            x.part(r, 0, 0, 0);
        }
    }

    private static JoinVessel built(int reactions) {
        JoinVessel x = new JoinVessel();
        build(x, reactions);
        return x;
    }

    private static void sealedAlready() {
        Due.sentence("Promise 8: 1 it is sealed");
        JoinVessel x = built(2);
        Due.due("at first", x.seal(), 0);
        Due.due("again", x.seal(), 1);
        Due.due("once more", x.seal(), 1);
        x.put(0, 1);
        Due.due("with a message", x.seal(), 1);
        x.react(5);
        Due.due("behind a firing", x.seal(), 1);
    }

    private static void noReaction() {
        Due.sentence("Promise 8: 2 there is no reaction");
        JoinVessel x = new JoinVessel();
        Due.due("a new object", x.seal(), 2);
        for (int c = 0; c < 8; c++) {
            x.channel(c % 2 == 1);
            Due.due("channels up to " + c, x.seal(), 2);
        }
        x.reaction();
        Due.due("a reaction, without parts", x.seal(), 3);
    }

    private static void noPart() {
        Due.sentence("Promise 8: 3 a reaction has no part");
        for (int count = 1; count <= 8; count++) {
            for (int empty = 0; empty < count; empty++) {
                JoinVessel x = new JoinVessel();
                x.channel(false);
                for (int r = 0; r < count; r++) {
                    x.reaction();
                    if (r != empty) {
                        x.part(r, 0, 0, 0);
                    }
                }
                // Neither a guard nor an action is a part.
                x.guard(empty, 0, 0);
                x.emit(empty, 0, 0, 0, 0);
                Due.due(empty + " of " + count + " is empty", x.seal(), 3);
                x.part(empty, 0, 0, 0);
                Due.due(empty + " of " + count + " was empty", x.seal(), 0);
            }
        }
    }

    private static void noAnswer() {
        Due.sentence(NO_ANSWER);
        for (int r = 0; r < 8; r++) {
            for (int part = 0; part < 4; part++) {
                JoinVessel x = new JoinVessel();
                x.channel(false);
                x.channel(true);
                for (int i = 0; i < 8; i++) {
                    x.reaction();
                    for (int j = 0; j < 4; j++) {
                        x.part(i, 1, 0, 0);
                        if (i != r || j != part) {
                            x.reply(i, j, 0, 0, 0);
                        }
                    }
                }
                Due.due("no answer to part " + part + " of " + r, x.seal(), 4);
                x.reply(r, part, 0, 0, 0);
                Due.due("an answer to part " + part + " of " + r, x.seal(), 0);
            }
        }
        Due.due("PLAIN channels need none", built(8).seal(), 0);
    }

    private static void answersThatDoNotCount() {
        Due.sentence(NO_ANSWER);
        JoinVessel x = built(2);
        x.part(0, 1, 0, 0);
        x.part(1, 1, 0, 0);
        x.reply(1, 1, 0, 0, 0);
        Due.due("another reaction answers its part 1", x.seal(), 4);
        JoinVessel y = new JoinVessel();
        y.channel(false);
        y.channel(true);
        y.reaction();
        y.part(0, 1, 0, 0);
        y.emit(0, 0, 0, 0, 0);
        Due.due("an action sends to channel 0, the part is 0", y.seal(), 4);
        y.part(0, 1, 0, 0);
        y.reply(0, 1, 0, 0, 0);
        Due.due("an action answers part 1, on channel 1", y.seal(), 4);
        y.reply(0, 0, 0, 0, 0);
        Due.due("both are answered", y.seal(), 0);
    }

    private static void noPartComesBeforeNoAnswer() {
        Due.sentence("Promise 8: the first of these that holds");
        for (int empty = 0; empty < 2; empty++) {
            JoinVessel x = new JoinVessel();
            x.channel(true);
            x.reaction();
            x.reaction();
            x.part(1 - empty, 0, 0, 0);
            Due.due(empty + " has no part, the other one no answer", x.seal(), 3);
            x.part(empty, 0, 0, 0);
            x.reply(empty, 0, 0, 0, 0);
            Due.due("the other one has no answer", x.seal(), 4);
            x.reply(1 - empty, 0, 0, 0, 0);
            Due.due("nothing stands against it", x.seal(), 0);
            Due.due("it is sealed", x.seal(), 1);
        }
    }

    private static void nothingChanges() {
        Due.sentence("Promise 8: Answers that number, and nothing changes");
        Consumer<JoinVessel> sealed = x -> {
            build(x, 2);
            x.seal();
            x.put(0, 3);
            x.react(1);
            x.put(0, 4);
        };
        Consumer<JoinVessel> channels = x -> build(x, 0);
        Consumer<JoinVessel> empty = x -> {
            build(x, 2);
            x.reaction();
        };
        Consumer<JoinVessel> unanswered = x -> {
            build(x, 2);
            x.part(1, 1, 0, 0);
        };
        Twins.refusedWith("sealed", sealed, x -> x.seal(), 1);
        Twins.refusedWith("no reaction", channels, x -> x.seal(), 2);
        Twins.refusedWith("no part", empty, x -> x.seal(), 3);
        Twins.refusedWith("no answer", unanswered, x -> x.seal(), 4);
    }

    private static void sealed() {
        Due.sentence("Promise 8: or 0, and the vessel is sealed");
        JoinVessel x = built(1);
        Due.due("not yet", x.put(0, 1), -1);
        Due.due("seal", x.seal(), 0);
        Due.due("messages can be put", x.put(0, 1), 0);
        Due.due("calls can be made", x.call(1, 1), 1);
        Due.due("reactions can fire", x.react(1), 1);
        Due.due("no channel can be added", x.channel(false), -1);
        Due.due("no reaction can be added", x.reaction(), -1);
        Due.due("no part can be added", x.part(0, 0, 0, 0), -1);
        Due.due("no guard can be made", x.guard(0, 0, 0), false);
        Due.due("no action that sends can be added", x.emit(0, 0, 0, 0, 0), false);
    }
}
