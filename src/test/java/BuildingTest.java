/** Promises 1 to 8: a new object, and how a vessel is built and sealed. */
public final class BuildingTest {
    private static final int[] NOT_0_TO_7 = {-1, 8, 9, Integer.MIN_VALUE, Integer.MAX_VALUE};

    public static void main(String[] args) {
        aNewObject();
        objectsAreApart();
        channelNumbers();
        channelKinds();
        reactionNumbers();
        partNumbers();
        partRefusals();
        guardRefusals();
        guardIsReplaced();
        emitRefusals();
        replyRefusals();
        actionsAreCountedTogether();
        partsThatComeLater();
        sealAnswersTheFirstObstacle();
        sealLooksAtEveryPart();
        sealRefusedChangesNothing();
        sealedIsForEver();
        Due.end();
    }

    private static void aNewObject() {
        JoinVessel x = new JoinVessel();
        Due.due("1 NONE", JoinVessel.NONE, -1);
        Due.due("1 seal", x.seal(), 2);
        Due.due("1 enabled", x.enabled(), 0);
        Due.due("1 next", x.next(), -1);
        Due.due("1 taken", x.taken(0), -1);
        Due.due("1 pendingAt", x.pendingAt(0, 0), -1);
        Due.due("1 value", x.value(0), 0);
        Due.due("1 state", x.state(0), 0);
        Due.due("1 consumer", x.consumer(0), -1);
        Due.due("1 answer", x.answer(0), 0);
        Due.due("1 fired", x.fired(0), -1);
        Due.due("1 put", x.put(0, 0), -1);
        Due.due("1 call", x.call(0, 0), -1);
        Due.due("1 react", x.react(0), -1);
        Due.due("1 withdraw", x.withdraw(0), false);
        Due.due("1 no reaction", x.guard(0, 0, 0), false);
        x.reaction();
        Due.due("1 no channel", x.part(0, 0, 0, 0), -1);
        x.channel(false);
        Due.due("1 then a channel", x.part(0, 0, 0, 0), 0);
    }

    private static void objectsAreApart() {
        JoinVessel x = Vessels.sealed();
        x.put(0, 7);
        x.react(1);
        String before = Vessels.seen(x);
        JoinVessel y = new JoinVessel();
        Due.due("1 another is open", y.channel(true), 0);
        Due.due("1 another has no reaction", y.reaction(), 0);
        Due.due("1 another has no message", y.state(0), 0);
        Due.due("1 the first is as it was", Vessels.seen(x), before);
    }

    private static void channelNumbers() {
        JoinVessel x = new JoinVessel();
        for (int c = 0; c < 8; c++) {
            Due.due("2 channel " + c, x.channel(c % 2 == 1), c);
        }
        Due.due("2 a ninth", x.channel(false), -1);
        Due.due("2 a ninth, answered", x.channel(true), -1);
        x.reaction();
        Due.due("2 the ninth is not there", x.part(0, 8, 0, 0), -1);
        Due.due("2 the eighth is there", x.part(0, 7, 0, 0), 0);
        Due.due("2 the eighth is answered", x.emit(0, 7, 0, 0, 0), false);
        Due.due("2 the seventh is plain", x.emit(0, 6, 0, 0, 0), true);
        Due.due("2 sealed", Vessels.sealed().channel(false), -1);
        Due.due("2 sealed, answered", Vessels.sealed().channel(true), -1);
    }

    private static void channelKinds() {
        JoinVessel x = Vessels.sealed();
        Due.due("2 put on plain", x.put(1, 5), 0);
        Due.due("2 call on plain", x.call(1, 5), -1);
        Due.due("2 put on answered", x.put(3, 5), -1);
        Due.due("2 call on answered", x.call(3, 5), 1);
    }

    private static void reactionNumbers() {
        JoinVessel x = new JoinVessel();
        x.channel(false);
        for (int r = 0; r < 8; r++) {
            Due.due("3 reaction " + r, x.reaction(), r);
        }
        Due.due("3 a ninth", x.reaction(), -1);
        Due.due("3 the ninth is not there", x.part(8, 0, 0, 0), -1);
        Due.due("3 the eighth is there", x.part(7, 0, 0, 0), 0);
        Due.due("3 a new one has no parts", x.part(3, 0, 0, 0), 0);
        Due.due("3 sealed", Vessels.sealed().reaction(), -1);
        JoinVessel y = Vessels.withParts(1);
        y.seal();
        y.put(0, 1);
        y.react(1);
        Due.due("3 a new one has no actions", y.state(1), 0);
    }

    private static void partNumbers() {
        JoinVessel x = Vessels.withChannels();
        x.reaction();
        x.reaction();
        for (int i = 0; i < 4; i++) {
            Due.due("4 part " + i, x.part(1, i, i + 1, -7), i);
        }
        Due.due("4 a fifth", x.part(1, 0, 0, 0), -1);
        Due.due("4 the other has its own", x.part(0, 0, 0, 0), 0);
    }

    private static void partRefusals() {
        JoinVessel x = Vessels.withParts(1);
        for (int bad : NOT_0_TO_7) {
            Due.due("4 no reaction " + bad, x.part(bad, 0, 0, 0), -1);
            Due.due("4 no channel " + bad, x.part(0, bad, 0, 0), -1);
            Due.due("4 no test " + bad, x.part(0, 0, bad, 0), -1);
        }
        Due.due("4 no reaction 1", x.part(1, 0, 0, 0), -1);
        Due.due("4 no channel 4", x.part(0, 4, 0, 0), -1);
        Due.due("4 no test 5", x.part(0, 0, 5, 0), -1);
        Due.due("4 refused parts are not there", x.part(0, 0, 4, 0), 1);
        x.seal();
        Due.due("4 sealed", x.part(0, 0, 0, 0), -1);
    }

    private static void guardRefusals() {
        JoinVessel x = Vessels.withParts(1);
        for (int kind = 0; kind <= 5; kind++) {
            Due.due("5 kind " + kind, x.guard(0, kind, Integer.MIN_VALUE), true);
        }
        Due.due("5 kind 6", x.guard(0, 6, 0), false);
        Due.due("5 no reaction 1", x.guard(1, 0, 0), false);
        for (int bad : NOT_0_TO_7) {
            Due.due("5 no reaction " + bad, x.guard(bad, 0, 0), false);
            Due.due("5 no kind " + bad, x.guard(0, bad, 0), false);
        }
        Due.due("5 sealed", Vessels.sealed().guard(0, 0, 0), false);
    }

    private static void guardIsReplaced() {
        JoinVessel x = Vessels.withParts(1);
        x.reaction();
        x.part(1, 0, 0, 0);
        x.guard(0, 4, 100);
        x.guard(0, 4, 10);
        Due.due("5 refused", x.guard(0, 6, 1000), false);
        x.guard(1, 5, 3);
        x.guard(1, 0, 3);
        x.seal();
        Due.due("5 refused when sealed", x.guard(0, 0, 0), false);
        x.put(0, 11);
        Due.due("5 the guard that stands", x.enabled(), 2);
        x.put(0, 10);
        Due.due("5 the guard that holds", x.enabled(), 3);
    }

    private static void emitRefusals() {
        JoinVessel x = Vessels.withParts(2);
        for (int bad : NOT_0_TO_7) {
            Due.due("6 no reaction " + bad, x.emit(bad, 0, 0, 0, 0), false);
            Due.due("6 no channel " + bad, x.emit(0, bad, 0, 0, 0), false);
            Due.due("6 no kind " + bad, x.emit(0, 0, bad, 0, 0), false);
            Due.due("6 no part " + bad + " for 1", x.emit(0, 0, 1, bad, 0), false);
            Due.due("6 no part " + bad + " for 2", x.emit(0, 0, 2, bad, 0), false);
        }
        Due.due("6 no reaction 1", x.emit(1, 0, 0, 0, 0), false);
        Due.due("6 no channel 4", x.emit(0, 4, 0, 0, 0), false);
        Due.due("6 answered", x.emit(0, 2, 0, 0, 0), false);
        Due.due("6 no kind 5", x.emit(0, 0, 5, 0, 0), false);
        Due.due("6 no part 2 for 1", x.emit(0, 0, 1, 2, 0), false);
        Due.due("6 no part 2 for 2", x.emit(0, 0, 2, 2, 0), false);
        Due.due("6 part 1 for 1", x.emit(0, 0, 1, 1, 0), true);
        Due.due("6 kind 0 looks at no part", x.emit(0, 0, 0, -1, 0), true);
        Due.due("6 kind 3 looks at no part", x.emit(0, 1, 3, 4, 0), true);
        Due.due("6 kind 4 looks at no part", x.emit(0, 1, 4, Integer.MAX_VALUE, 0), true);
        Due.due("6 a fifth action", x.emit(0, 1, 0, 0, 0), false);
        Due.due("6 sealed", Vessels.sealed().emit(0, 0, 0, 0, 0), false);
    }

    private static void replyRefusals() {
        JoinVessel x = Vessels.withParts(1);
        x.part(0, 2, 0, 0);
        x.part(0, 3, 0, 0);
        for (int bad : NOT_0_TO_7) {
            Due.due("7 no reaction " + bad, x.reply(bad, 1, 0, 0, 0), false);
            Due.due("7 no part " + bad, x.reply(0, bad, 0, 0, 0), false);
            Due.due("7 no kind " + bad, x.reply(0, 1, bad, 0, 0), false);
            Due.due("7 no part " + bad + " for 1", x.reply(0, 1, 1, bad, 0), false);
            Due.due("7 no part " + bad + " for 2", x.reply(0, 1, 2, bad, 0), false);
        }
        Due.due("7 no reaction 1", x.reply(1, 1, 0, 0, 0), false);
        Due.due("7 no part 3", x.reply(0, 3, 0, 0, 0), false);
        Due.due("7 plain", x.reply(0, 0, 0, 0, 0), false);
        Due.due("7 no kind 5", x.reply(0, 1, 5, 0, 0), false);
        Due.due("7 no part 3 for 1", x.reply(0, 1, 1, 3, 0), false);
        Due.due("7 no part 3 for 2", x.reply(0, 1, 2, 3, 0), false);
        Due.due("7 nothing was answered", x.seal(), 4);
        Due.due("7 part 1", x.reply(0, 1, 3, 77, 0), true);
        Due.due("7 part 1 again", x.reply(0, 1, 0, 0, 0), false);
        Due.due("7 part 2", x.reply(0, 2, 0, -9, 0), true);
        Due.due("7 part 2 again", x.reply(0, 2, 0, 0, 0), false);
        Due.due("7 sealed", Vessels.sealed().reply(1, 0, 0, 0, 0), false);
        sealedReplyWithPlace();
    }

    private static void sealedReplyWithPlace() {
        JoinVessel x = Vessels.sealed();
        Due.due("7 sealed, emit", x.emit(1, 0, 0, 0, 9), false);
        x.call(2, 5);
        x.react(1);
        Due.due("7 sealed, nothing sent", x.state(1), 0);
        Due.due("7 sealed, the answer", x.answer(0), 5);
    }

    private static void actionsAreCountedTogether() {
        JoinVessel x = Vessels.withChannels();
        x.reaction();
        for (int part = 0; part < 4; part++) {
            x.part(0, 2, 0, 0);
        }
        Due.due("6, 7 first", x.emit(0, 0, 0, 0, 0), true);
        Due.due("6, 7 second", x.reply(0, 0, 0, 0, 0), true);
        Due.due("6, 7 third", x.reply(0, 1, 0, 0, 0), true);
        Due.due("6, 7 fourth", x.reply(0, 2, 0, 0, 0), true);
        Due.due("6, 7 a fifth that answers", x.reply(0, 3, 0, 0, 0), false);
        Due.due("6, 7 a fifth that sends", x.emit(0, 0, 0, 0, 0), false);
        Due.due("6, 7 the fifth is not there", x.seal(), 4);
    }

    private static void partsThatComeLater() {
        JoinVessel x = Vessels.withChannels();
        x.reaction();
        Due.due("6 no part yet", x.emit(0, 0, 1, 0, 0), false);
        Due.due("6 no part needed", x.emit(0, 0, 0, 0, 0), true);
        Due.due("7 no part yet", x.reply(0, 0, 0, 0, 0), false);
        x.part(0, 2, 0, 0);
        Due.due("6 a part now", x.emit(0, 0, 1, 0, 0), true);
        Due.due("7 a part now", x.reply(0, 0, 0, 0, 0), true);
    }

    private static void sealAnswersTheFirstObstacle() {
        JoinVessel x = new JoinVessel();
        Due.due("8 no reaction", x.seal(), 2);
        x.channel(true);
        Due.due("8 no reaction still", x.seal(), 2);
        x.reaction();
        x.part(0, 0, 0, 0);
        Due.due("8 no answer", x.seal(), 4);
        x.reaction();
        Due.due("8 no part in the second, no answer in the first", x.seal(), 3);
        x.part(1, 0, 0, 0);
        x.reply(1, 0, 0, 0, 0);
        Due.due("8 no answer in the first", x.seal(), 4);
        x.reply(0, 0, 0, 0, 0);
        Due.due("8 sealed", x.seal(), 0);
        Due.due("8 sealed already", x.seal(), 1);
    }

    private static void sealLooksAtEveryPart() {
        JoinVessel x = Vessels.withParts(1);
        x.part(0, 2, 0, 0);
        x.part(0, 2, 0, 0);
        // Sends to channel 1, which is no answer to part 1.
        x.emit(0, 1, 0, 0, 0);
        Due.due("8 no answer to either", x.seal(), 4);
        x.reply(0, 2, 0, 0, 0);
        Due.due("8 no answer to part 1", x.seal(), 4);
        x.reply(0, 1, 0, 0, 0);
        Due.due("8 all answered", x.seal(), 0);
        JoinVessel y = Vessels.withParts(1);
        Due.due("8 a PLAIN part needs no answer", y.seal(), 0);
    }

    private static void sealRefusedChangesNothing() {
        JoinVessel x = Vessels.withChannels();
        x.reaction();
        Due.due("8 refused", x.seal(), 3);
        Due.due("8 still open: put", x.put(0, 0), -1);
        Due.due("8 still open: react", x.react(0), -1);
        Due.due("8 still open: channel", x.channel(false), 4);
        Due.due("8 still open: reaction", x.reaction(), 1);
        Due.due("8 still open: part", x.part(0, 4, 0, 0), 0);
        Due.due("8 still open: guard", x.guard(0, 1, 1), true);
    }

    private static void sealedIsForEver() {
        JoinVessel x = Vessels.sealed();
        x.put(0, 3);
        String before = Vessels.seen(x);
        Due.due("8 sealed already", x.seal(), 1);
        x.channel(false);
        x.reaction();
        x.part(0, 1, 1, 1);
        x.guard(0, 5, 0);
        x.emit(0, 0, 0, 0, 0);
        Due.due("8 what is refused changes nothing", Vessels.seen(x), before);
        Due.due("8 it still reacts", x.react(5), 1);
        Due.due("8 without the refused action", x.state(1), 0);
    }
}
