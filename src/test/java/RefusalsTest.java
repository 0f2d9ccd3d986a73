import java.util.function.Consumer;

/**
 * Promises 2 to 12: each reason for which a call is refused, one by one, with all else in order, and
 * beside it the nearest call that is not refused.
 */
public final class RefusalsTest {
    private static final int LEAST = Integer.MIN_VALUE;
    private static final int MOST = Integer.MAX_VALUE;
    /** Numbers that are wrong everywhere, some of them right if all but the lowest bits were dropped. */
    private static final int[] WILD = {LEAST, LEAST + 1, -256, -8, -2, -1, 7, 8, 16, 32, 256, 65536, 1 << 30, MOST};

    public static void main(String[] args) {
        Due.run(
                RefusalsTest::channelWhenSealed,
                RefusalsTest::channelBeyondEight,
                RefusalsTest::reactionWhenSealed,
                RefusalsTest::reactionBeyondEight,
                RefusalsTest::partWhenSealed,
                RefusalsTest::partOfNoReaction,
                RefusalsTest::partOnNoChannel,
                RefusalsTest::partWithNoTest,
                RefusalsTest::partBeyondFour,
                RefusalsTest::guardWhenSealed,
                RefusalsTest::guardOfNoReaction,
                RefusalsTest::guardWithNoKind,
                RefusalsTest::emitWhenSealed,
                RefusalsTest::emitOfNoReaction,
                RefusalsTest::emitToNoPlainChannel,
                RefusalsTest::emitWithNoKind,
                RefusalsTest::emitWithNoPart,
                RefusalsTest::emitBeyondFour,
                RefusalsTest::replyWhenSealed,
                RefusalsTest::replyOfNoReaction,
                RefusalsTest::replyToNoPart,
                RefusalsTest::replyOnAPlainChannel,
                RefusalsTest::replyToAnAnsweredPart,
                RefusalsTest::replyWithNoKind,
                RefusalsTest::replyWithNoPart,
                RefusalsTest::replyBeyondFour,
                RefusalsTest::putWhenNotSealed,
                RefusalsTest::putOnNoPlainChannel,
                RefusalsTest::putWhenFull,
                RefusalsTest::callWhenNotSealed,
                RefusalsTest::callOnNoAnsweredChannel,
                RefusalsTest::callWhenFull,
                RefusalsTest::putBeyond300,
                RefusalsTest::callBeyond300,
                RefusalsTest::withdrawOfNoCall,
                RefusalsTest::withdrawNotPending,
                RefusalsTest::reactWhenNotSealed,
                RefusalsTest::reactTooOften,
                RefusalsTest::refusedCallsAmongOthers);
    }

    // ---- vessels ----

    /**
     * Open: channels 0 and 1 are PLAIN, 2 and 3 ANSWERED. Reaction 0 has two parts, a guard and two actions,
     * reaction 1 a part on a PLAIN channel, reaction 2 one on an ANSWERED channel that is not answered yet.
     */
    private static void build(JoinVessel x) {
        for (int c = 0; c < 4; c++) {
            x.channel(c >= 2);
        }
        for (int r = 0; r < 3; r++) {
            x.reaction();
        }
        x.part(0, 0, 3, 2);
        x.part(0, 2, 0, 0);
        x.guard(0, 4, 8);
        x.reply(0, 1, 1, 0, 10);
        x.emit(0, 1, 1, 1, 20);
        x.part(1, 1, 2, 50);
        x.part(2, 3, 0, 0);
    }

    private static void buildAndSeal(JoinVessel x) {
        build(x);
        x.reply(2, 0, 3, 0, 5);
        x.seal();
    }

    /** Fills the body of reaction r with actions that send. */
    private static Consumer<JoinVessel> fullBody(int r) {
        return x -> {
            build(x);
            for (int a = 0; a < 4; a++) {
                x.emit(r, 1, 0, 0, a);
            }
        };
    }

    private static JoinVessel built() {
        JoinVessel x = new JoinVessel();
        build(x);
        return x;
    }

    private static JoinVessel builtAndSealed() {
        JoinVessel x = new JoinVessel();
        buildAndSeal(x);
        return x;
    }

    /** The wild numbers, behind the one that is just too large. */
    private static int[] outside(int count) {
        int[] numbers = new int[WILD.length + 2];
        numbers[0] = count;
        numbers[1] = count + 1;
        System.arraycopy(WILD, 0, numbers, 2, WILD.length);
        return numbers;
    }

    // ---- promises 2 and 3 ----

    private static void channelWhenSealed() {
        Due.sentence("Promise 2: NONE, refused, when the vessel is sealed");
        Twins.refused("PLAIN", RefusalsTest::buildAndSeal, x -> x.channel(false));
        Twins.refused("ANSWERED", RefusalsTest::buildAndSeal, x -> x.channel(true));
        Due.due("not sealed", built().channel(false), 4);
    }

    private static void channelBeyondEight() {
        Due.sentence("Promise 2: or 8 channels are there");
        for (int count = 4; count <= 8; count++) {
            JoinVessel x = built();
            for (int c = 4; c < count; c++) {
                x.channel(false);
            }
            Due.due(count + " are there", x.channel(true), count < 8 ? count : -1);
        }
        Consumer<JoinVessel> eight = x -> {
            build(x);
            for (int c = 4; c < 8; c++) {
                x.channel(c % 2 == 0);
            }
        };
        Twins.refused("PLAIN", eight, x -> x.channel(false));
        Twins.refused("ANSWERED", eight, x -> x.channel(true));
    }

    private static void reactionWhenSealed() {
        Due.sentence("Promise 3: NONE, refused, when the vessel is sealed");
        Twins.refused("reaction", RefusalsTest::buildAndSeal, x -> x.reaction());
        Due.due("not sealed", built().reaction(), 3);
    }

    private static void reactionBeyondEight() {
        Due.sentence("Promise 3: or 8 reactions are there");
        for (int count = 3; count <= 8; count++) {
            JoinVessel x = built();
            for (int r = 3; r < count; r++) {
                x.reaction();
            }
            Due.due(count + " are there", x.reaction(), count < 8 ? count : -1);
        }
        Twins.refused("reaction", x -> {
            build(x);
            for (int r = 3; r < 8; r++) {
                x.reaction();
                x.part(r, 1, 0, 0);
            }
        }, x -> x.reaction());
    }

    // ---- promise 4 ----

    private static void partWhenSealed() {
        Due.sentence("Promise 4: NONE, refused, when the vessel is sealed");
        for (int r = 0; r < 3; r++) {
            int of = r;
            Twins.refused("part of " + r, RefusalsTest::buildAndSeal, x -> x.part(of, 1, 0, 0));
        }
        Due.due("not sealed", built().part(0, 1, 0, 0), 2);
    }

    private static void partOfNoReaction() {
        Due.sentence("Promise 4: r is no reaction");
        for (int bad : outside(3)) {
            Twins.refused("r " + bad, RefusalsTest::build, x -> x.part(bad, 1, 0, 0));
        }
        Due.due("r 2, the last", built().part(2, 1, 0, 0), 1);
        Due.due("r 0, and none is there", Vessels.withChannels().part(0, 0, 0, 0), -1);
    }

    private static void partOnNoChannel() {
        Due.sentence("Promise 4: channel is no channel");
        for (int bad : outside(4)) {
            Twins.refused("channel " + bad, RefusalsTest::build, x -> x.part(1, bad, 0, 0));
        }
        Due.due("channel 0, the first", built().part(1, 0, 0, 0), 1);
        Due.due("channel 3, the last", built().part(1, 3, 0, 0), 1);
        JoinVessel none = new JoinVessel();
        none.reaction();
        Due.due("channel 0, and none is there", none.part(0, 0, 0, 0), -1);
    }

    private static void partWithNoTest() {
        Due.sentence("Promise 4: test is not 0 .. 4");
        for (int bad : outside(5)) {
            Twins.refused("test " + bad, RefusalsTest::build, x -> x.part(1, 0, bad, 0));
        }
        for (int test = 0; test <= 4; test++) {
            Due.due("test " + test, built().part(1, 0, test, LEAST), 1);
        }
    }

    private static void partBeyondFour() {
        Due.sentence("Promise 4: or r has 4 parts");
        for (int r = 0; r < 3; r++) {
            int of = r;
            Consumer<JoinVessel> four = x -> {
                build(x);
                for (int part = of == 0 ? 2 : 1; part < 4; part++) {
                    Due.due("part " + part + " of " + of, x.part(of, 1, 0, 0), part);
                }
            };
            Twins.refused("a fifth of " + r, four, x -> x.part(of, 1, 0, 0));
        }
    }

    // ---- promise 5 ----

    private static void guardWhenSealed() {
        Due.sentence("Promise 5: false, refused, when the vessel is sealed");
        for (int kind = 0; kind <= 5; kind++) {
            int of = kind;
            Twins.denied("kind " + kind, RefusalsTest::buildAndSeal, x -> x.guard(0, of, -5));
            Due.due("not sealed, kind " + kind, built().guard(0, kind, -5), true);
        }
    }

    private static void guardOfNoReaction() {
        Due.sentence("Promise 5: r is no reaction");
        for (int bad : outside(3)) {
            Twins.denied("r " + bad, RefusalsTest::build, x -> x.guard(bad, 2, 0));
        }
        Due.due("r 0, the first", built().guard(0, 2, 0), true);
        Due.due("r 2, the last", built().guard(2, 2, 0), true);
        Due.due("r 0, and none is there", new JoinVessel().guard(0, 0, 0), false);
    }

    private static void guardWithNoKind() {
        Due.sentence("Promise 5: or kind is not 0 .. 5");
        for (int bad : outside(6)) {
            Twins.denied("kind " + bad, RefusalsTest::build, x -> x.guard(0, bad, 1000));
        }
    }

    // ---- promise 6 ----

    private static void emitWhenSealed() {
        Due.sentence("Promise 6: false, refused, when the vessel is sealed");
        for (int r = 0; r < 3; r++) {
            int of = r;
            Twins.denied("emit of " + r, RefusalsTest::buildAndSeal, x -> x.emit(of, 1, 0, 0, 9));
        }
        Due.due("not sealed", built().emit(0, 1, 0, 0, 9), true);
    }

    private static void emitOfNoReaction() {
        Due.sentence("Promise 6: r is no reaction");
        for (int bad : outside(3)) {
            Twins.denied("r " + bad, RefusalsTest::build, x -> x.emit(bad, 1, 0, 0, 9));
        }
        Due.due("r 2, the last", built().emit(2, 1, 0, 0, 9), true);
        Due.due("r 0, and none is there", Vessels.withChannels().emit(0, 0, 0, 0, 0), false);
    }

    private static void emitToNoPlainChannel() {
        Due.sentence("Promise 6: channel is not a PLAIN channel");
        for (int bad : outside(4)) {
            Twins.denied("no channel " + bad, RefusalsTest::build, x -> x.emit(1, bad, 0, 0, 9));
        }
        Twins.denied("the ANSWERED channel 2", RefusalsTest::build, x -> x.emit(1, 2, 0, 0, 9));
        Twins.denied("the ANSWERED channel 3", RefusalsTest::build, x -> x.emit(1, 3, 0, 0, 9));
        Due.due("channel 0, the first", built().emit(1, 0, 0, 0, 9), true);
        Due.due("channel 1, the last PLAIN one", built().emit(1, 1, 0, 0, 9), true);
    }

    private static void emitWithNoKind() {
        Due.sentence("Promise 6: kind is not 0 .. 4");
        for (int bad : outside(5)) {
            Twins.denied("kind " + bad, RefusalsTest::build, x -> x.emit(1, 1, bad, 0, 9));
        }
        for (int kind = 0; kind <= 4; kind++) {
            Due.due("kind " + kind, built().emit(1, 1, kind, 0, LEAST), true);
        }
    }

    private static void emitWithNoPart() {
        Due.sentence("Promise 6: kind is 1 or 2 and r has no part p by now");
        for (int kind = 1; kind <= 2; kind++) {
            int of = kind;
            for (int bad : outside(2)) {
                Twins.denied("kind " + kind + ", p " + bad, RefusalsTest::build, x -> x.emit(0, 1, of, bad, 9));
            }
            Due.due("kind " + kind + ", p 0", built().emit(0, 1, kind, 0, 9), true);
            Due.due("kind " + kind + ", p 1, the last", built().emit(0, 1, kind, 1, 9), true);
            Due.due("kind " + kind + ", p 1 of a reaction of one part", built().emit(1, 1, kind, 1, 9), false);
            JoinVessel x = Vessels.withParts(0);
            Due.due("kind " + kind + ", no part yet", x.emit(0, 0, kind, 0, 0), false);
            x.part(0, 0, 0, 0);
            Due.due("kind " + kind + ", a part now", x.emit(0, 0, kind, 0, 0), true);
            Due.due("kind " + kind + ", four parts", Vessels.withParts(4).emit(0, 0, kind, 3, 0), true);
            Due.due("kind " + kind + ", beyond four", Vessels.withParts(4).emit(0, 0, kind, 4, 0), false);
        }
        for (int kind : new int[] {0, 3, 4}) {
            for (int p : outside(2)) {
                Due.due("kind " + kind + ", p " + p, built().emit(0, 1, kind, p, 9), true);
            }
            Due.due("kind " + kind + ", without parts", Vessels.withParts(0).emit(0, 0, kind, 0, 0), true);
        }
    }

    private static void emitBeyondFour() {
        Due.sentence("Promise 6: or r has 4 actions");
        for (int r = 0; r < 3; r++) {
            int of = r;
            Twins.denied("a fifth of " + r, fullBody(r), x -> x.emit(of, 1, 0, 0, 9));
        }
        JoinVessel x = Vessels.withParts(1);
        for (int a = 0; a < 4; a++) {
            Due.due("action " + a, x.emit(0, 0, 0, 0, 9), true);
        }
        Due.due("a fifth", x.emit(0, 0, 0, 0, 9), false);
    }

    // ---- promise 7 ----

    private static void replyWhenSealed() {
        Due.sentence("Promise 7: false, refused, when the vessel is sealed");
        Twins.denied("part 1 of 0", RefusalsTest::buildAndSeal, x -> x.reply(0, 1, 0, 0, 9));
        Twins.denied("part 0 of 2", RefusalsTest::buildAndSeal, x -> x.reply(2, 0, 0, 0, 9));
        Due.due("not sealed", built().reply(2, 0, 0, 0, 9), true);
    }

    private static void replyOfNoReaction() {
        Due.sentence("Promise 7: r is no reaction");
        for (int bad : outside(3)) {
            Twins.denied("r " + bad, RefusalsTest::build, x -> x.reply(bad, 0, 0, 0, 9));
        }
        Due.due("r 2, the last", built().reply(2, 0, 0, 0, 9), true);
        Due.due("r 0, and none is there", Vessels.withChannels().reply(0, 0, 0, 0, 0), false);
    }

    private static void replyToNoPart() {
        Due.sentence("Promise 7: r has no such part by now");
        for (int bad : outside(1)) {
            Twins.denied("part " + bad, RefusalsTest::build, x -> x.reply(2, bad, 0, 0, 9));
        }
        // With no PLAIN channel there is no other reason than that the part is not there.
        Consumer<JoinVessel> answered = x -> {
            x.channel(true);
            x.reaction();
            x.part(0, 0, 0, 0);
        };
        for (int bad : outside(1)) {
            Twins.denied("all ANSWERED, part " + bad, answered, x -> x.reply(0, bad, 0, 0, 9));
        }
        JoinVessel x = Vessels.withChannels();
        x.reaction();
        for (int part = 0; part < 4; part++) {
            Due.due("not yet, part " + part, x.reply(0, part, 0, 0, 0), false);
            x.part(0, 2, 0, 0);
            Due.due("by now, part " + part, x.reply(0, part, 0, 0, 0), true);
        }
        Due.due("a fifth part", x.reply(0, 4, 0, 0, 0), false);
    }

    private static void replyOnAPlainChannel() {
        Due.sentence("Promise 7: the part's channel is not ANSWERED");
        Twins.denied("channel 0", RefusalsTest::build, x -> x.reply(0, 0, 0, 0, 9));
        Twins.denied("channel 1", RefusalsTest::build, x -> x.reply(1, 0, 0, 0, 9));
        JoinVessel x = Vessels.withChannels();
        x.reaction();
        for (int c = 0; c < 4; c++) {
            // The numbers of parts and channels run against each other, so that they can't be taken for one another.
            x.part(0, 3 - c, 0, 0);
            Due.due("part " + c + " on channel " + (3 - c), x.reply(0, c, 0, 0, 0), c < 2);
        }
    }

    private static void replyToAnAnsweredPart() {
        Due.sentence("Promise 7: an action of r answers that part already");
        Twins.denied("part 1 of 0", RefusalsTest::build, x -> x.reply(0, 1, 0, 0, 9));
        JoinVessel x = Vessels.withChannels();
        x.reaction();
        x.reaction();
        for (int part = 0; part < 4; part++) {
            x.part(0, 2, 0, 0);
            x.part(1, 2, 0, 0);
        }
        Due.due("an action that sends to channel 1 answers no part", x.emit(0, 1, 0, 0, 0), true);
        Due.due("part 1 of 0", x.reply(0, 1, 0, 0, 0), true);
        Due.due("part 1 of 0 again", x.reply(0, 1, 0, 0, 0), false);
        Due.due("part 2 of 0", x.reply(0, 2, 0, 0, 0), true);
        Due.due("part 1 of 0 once more", x.reply(0, 1, 0, 0, 0), false);
        Due.due("part 1 of another reaction", x.reply(1, 1, 0, 0, 0), true);
        Due.due("part 0 of 0", x.reply(0, 0, 0, 0, 0), true);
    }

    private static void replyWithNoKind() {
        Due.sentence("Promise 7: kind is not 0 .. 4");
        for (int bad : outside(5)) {
            Twins.denied("kind " + bad, RefusalsTest::build, x -> x.reply(2, 0, bad, 0, 9));
        }
        for (int kind = 0; kind <= 4; kind++) {
            Due.due("kind " + kind, built().reply(2, 0, kind, 0, LEAST), true);
        }
    }

    private static void replyWithNoPart() {
        Due.sentence("Promise 7: kind is 1 or 2 and r has no part p by now");
        for (int kind = 1; kind <= 2; kind++) {
            int of = kind;
            for (int bad : outside(1)) {
                Twins.denied("kind " + kind + ", p " + bad, RefusalsTest::build, x -> x.reply(2, 0, of, bad, 9));
            }
            Due.due("kind " + kind + ", p 0", built().reply(2, 0, kind, 0, 9), true);
            JoinVessel x = built();
            x.part(2, 0, 0, 0);
            Due.due("kind " + kind + ", p 2 of two parts", x.reply(2, 0, kind, 2, 9), false);
            Due.due("kind " + kind + ", p 1 of two parts", x.reply(2, 0, kind, 1, 9), true);
        }
        for (int kind : new int[] {0, 3, 4}) {
            for (int p : outside(1)) {
                Due.due("kind " + kind + ", p " + p, built().reply(2, 0, kind, p, 9), true);
            }
        }
    }

    private static void replyBeyondFour() {
        Due.sentence("Promise 7: or r has 4 actions");
        Twins.denied("a fifth of 2", fullBody(2), x -> x.reply(2, 0, 0, 0, 9));
        JoinVessel x = built();
        for (int a = 0; a < 3; a++) {
            x.emit(2, 1, 0, 0, 9);
        }
        Due.due("a fourth", x.reply(2, 0, 0, 0, 9), true);
    }

    // ---- promises 9 and 10 ----

    private static void putWhenNotSealed() {
        Due.sentence("Promise 9: NONE, refused, when the vessel is not sealed");
        Twins.refused("channel 0", RefusalsTest::build, x -> x.put(0, 5));
        Twins.refused("channel 1", RefusalsTest::build, x -> x.put(1, 5));
        Due.due("sealed", builtAndSealed().put(1, 5), 0);
    }

    private static void putOnNoPlainChannel() {
        Due.sentence("Promise 9: channel is not a PLAIN channel");
        for (int bad : outside(4)) {
            Twins.refused("no channel " + bad, RefusalsTest::buildAndSeal, x -> x.put(bad, 5));
        }
        Twins.refused("the ANSWERED channel 2", RefusalsTest::buildAndSeal, x -> x.put(2, 5));
        Twins.refused("the ANSWERED channel 3", RefusalsTest::buildAndSeal, x -> x.put(3, 5));
    }

    private static void putWhenFull() {
        Due.sentence("Promise 9: 6 messages are PENDING there");
        Consumer<JoinVessel> full = x -> {
            buildAndSeal(x);
            for (int m = 0; m < 6; m++) {
                Due.due("message " + m, x.put(0, m), m);
            }
        };
        Twins.refused("a seventh", full, x -> x.put(0, 9));
        JoinVessel x = new JoinVessel();
        full.accept(x);
        Due.due("another channel", x.put(1, 9), 6);
    }

    private static void callWhenNotSealed() {
        Due.sentence("Promise 10: NONE, refused, when the vessel is not sealed");
        Twins.refused("channel 2", RefusalsTest::build, x -> x.call(2, 5));
        Twins.refused("channel 3", RefusalsTest::build, x -> x.call(3, 5));
        Due.due("sealed", builtAndSealed().call(3, 5), 0);
    }

    private static void callOnNoAnsweredChannel() {
        Due.sentence("Promise 10: channel is not an ANSWERED channel");
        for (int bad : outside(4)) {
            Twins.refused("no channel " + bad, RefusalsTest::buildAndSeal, x -> x.call(bad, 5));
        }
        Twins.refused("the PLAIN channel 0", RefusalsTest::buildAndSeal, x -> x.call(0, 5));
        Twins.refused("the PLAIN channel 1", RefusalsTest::buildAndSeal, x -> x.call(1, 5));
    }

    private static void callWhenFull() {
        Due.sentence("Promise 10: 6 messages are PENDING there");
        Consumer<JoinVessel> full = x -> {
            buildAndSeal(x);
            for (int m = 0; m < 6; m++) {
                Due.due("message " + m, x.call(2, m), m);
            }
        };
        Twins.refused("a seventh", full, x -> x.call(2, 9));
        JoinVessel x = new JoinVessel();
        full.accept(x);
        Due.due("another channel", x.call(3, 9), 6);
        x.withdraw(0);
        Due.due("one was withdrawn", x.call(2, 9), 7);
    }

    /** So many messages, of which the last three are PENDING, on the channels 1, 2 and 3. */
    private static Consumer<JoinVessel> made(int count) {
        return x -> {
            build(x);
            x.reply(2, 0, 3, 0, 5);
            x.reaction();
            x.part(3, 0, 0, 0);
            x.seal();
            Vessels.makeMessages(x, count - 3);
            x.put(1, 60);
            x.call(2, 1);
            x.call(3, 1);
        };
    }

    private static void putBeyond300() {
        Due.sentence("Promise 9: or 300 messages were made");
        Twins.refusedLate("channel 0", made(300), x -> x.put(0, 5));
        Twins.refusedLate("channel 1", made(300), x -> x.put(1, 5));
        JoinVessel x = new JoinVessel();
        made(299).accept(x);
        Due.due("299 were made", x.put(0, 5), 299);
        Due.due("300 were made", x.put(0, 5), -1);
    }

    private static void callBeyond300() {
        Due.sentence("Promise 10: or 300 messages were made");
        Twins.refusedLate("channel 2", made(300), x -> x.call(2, 5));
        Twins.refusedLate("channel 3", made(300), x -> x.call(3, 5));
        JoinVessel x = new JoinVessel();
        made(299).accept(x);
        Due.due("299 were made", x.call(2, 5), 299);
        Due.due("300 were made", x.call(2, 5), -1);
    }

    // ---- promise 11 ----

    /** Message 0 is on a PLAIN channel, 1, 2 and 3 are calls; 1 is CONSUMED, 3 WITHDRAWN. */
    private static void buildAndSend(JoinVessel x) {
        buildAndSeal(x);
        x.put(0, 1);
        x.call(3, 7);
        x.react(1);
        x.call(3, 8);
        x.call(3, 9);
        x.withdraw(3);
    }

    private static void withdrawOfNoCall() {
        Due.sentence("Promise 11: false, refused, when m is no call (no message, or one on a PLAIN channel)");
        for (int bad : outside(4)) {
            Twins.denied("no message " + bad, RefusalsTest::buildAndSend, x -> x.withdraw(bad));
        }
        Twins.denied("no message 299", RefusalsTest::buildAndSend, x -> x.withdraw(299));
        Twins.denied("no message 300", RefusalsTest::buildAndSend, x -> x.withdraw(300));
        Twins.denied("on a PLAIN channel", RefusalsTest::buildAndSend, x -> x.withdraw(0));
        Due.due("no message 0 in a new object", new JoinVessel().withdraw(0), false);
        Due.due("no message 0 in an open vessel", built().withdraw(0), false);
        Due.due("no message 0 in a sealed vessel", builtAndSealed().withdraw(0), false);
        JoinVessel x = new JoinVessel();
        buildAndSend(x);
        Due.due("a PENDING call", x.withdraw(2), true);
        Due.due("it is WITHDRAWN", x.state(2), 3);
    }

    private static void withdrawNotPending() {
        Due.sentence("Promise 11: or not PENDING");
        Twins.denied("a CONSUMED call", RefusalsTest::buildAndSend, x -> x.withdraw(1));
        Twins.denied("a WITHDRAWN call", RefusalsTest::buildAndSend, x -> x.withdraw(3));
        Consumer<JoinVessel> taken = x -> {
            buildAndSeal(x);
            x.put(1, 4);
            x.react(1);
        };
        Twins.denied("a CONSUMED message on a PLAIN channel", taken, x -> x.withdraw(0));
    }

    // ---- promise 12 ----

    private static void reactWhenNotSealed() {
        Due.sentence("Promise 12: NONE, refused, when the vessel is not sealed");
        for (int n = 0; n <= 5; n++) {
            int times = n;
            Twins.refused("n " + n, RefusalsTest::build, x -> x.react(times));
            Due.due("a new object, n " + n, new JoinVessel().react(n), -1);
        }
    }

    private static void reactTooOften() {
        Due.sentence("Promise 12: or n is not 0 .. 5");
        Consumer<JoinVessel> ready = x -> {
            buildAndSeal(x);
            for (int m = 0; m < 6; m++) {
                x.put(1, m);
            }
        };
        for (int bad : outside(6)) {
            Twins.refused("n " + bad, ready, x -> x.react(bad));
        }
        for (int n = 0; n <= 5; n++) {
            JoinVessel x = new JoinVessel();
            ready.accept(x);
            Due.due("n " + n, x.react(n), n);
        }
    }

    // ---- all of them ----

    private static void dueRefused(int[] numbers, boolean[] truths) {
        for (int i = 0; i < numbers.length; i++) {
            Due.due("number " + i, numbers[i], -1);
        }
        for (int i = 0; i < truths.length; i++) {
            Due.due("truth " + i, truths[i], false);
        }
    }

    private static void refuse(JoinVessel x) {
        int[] numbers = {
            x.part(-1, 0, 0, 0), x.part(0, 4, 0, 0), x.part(0, 0, 5, 0), x.put(2, 9), x.put(-1, 9), x.call(0, 9),
            x.call(4, 9), x.react(-1), x.react(6),
        };
        boolean[] truths = {
            x.guard(0, 6, 0), x.emit(0, 2, 0, 0, 0), x.emit(0, 1, 5, 0, 0), x.emit(0, 1, 1, 4, 0),
            x.reply(0, 0, 0, 0, 0), x.reply(0, 1, 5, 0, 0), x.withdraw(-1), x.withdraw(300),
        };
        dueRefused(numbers, truths);
    }

    private static void refuseWhenOpen(JoinVessel x) {
        refuse(x);
        Due.due("seal", x.seal(), 4);
        dueRefused(new int[] {x.put(0, 9), x.call(2, 9), x.react(5)}, new boolean[] {});
    }

    private static void refuseWhenSealed(JoinVessel x) {
        refuse(x);
        Due.due("seal", x.seal(), 1);
        int[] numbers = {x.channel(true), x.reaction(), x.part(0, 0, 0, 0)};
        boolean[] truths = {x.guard(0, 0, 0), x.emit(0, 1, 0, 0, 0)};
        dueRefused(numbers, truths);
    }

    /** What a vessel answers in the course of its life; calls that are refused come between, if they are wanted. */
    private static String life(boolean withRefused) {
        JoinVessel x = new JoinVessel();
        Consumer<JoinVessel> whenOpen = withRefused ? RefusalsTest::refuseWhenOpen : y -> { };
        Consumer<JoinVessel> whenSealed = withRefused ? RefusalsTest::refuseWhenSealed : y -> { };
        build(x);
        whenOpen.accept(x);
        x.part(1, 2, 0, 0);
        whenOpen.accept(x);
        x.reply(1, 1, 2, 0, 3);
        x.reply(2, 0, 3, 0, 5);
        x.seal();
        StringBuilder text = new StringBuilder();
        for (int i = 0; i < 9; i++) {
            whenSealed.accept(x);
            int called = x.call(2 + i % 2, 10 - i);
            text.append(x.put(i % 2, i)).append(' ').append(called).append(' ');
            text.append(x.withdraw(i % 3 == 2 ? called : 0)).append(' ').append(x.react(i % 4)).append(' ');
        }
        whenSealed.accept(x);
        text.append(Vessels.seen(x));
        return text.toString();
    }

    private static void refusedCallsAmongOthers() {
        Due.sentence("A call that is refused changes nothing.");
        Due.due("with refused calls among the others", life(true), life(false));
    }
}
