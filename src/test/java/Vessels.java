/** Small vessels that several tests begin with, and what can be seen of a vessel from outside. */
final class Vessels {
    private Vessels() {
    }

    /** Channels 0 and 1 are PLAIN, 2 and 3 are ANSWERED; there are no reactions. */
    static JoinVessel withChannels() {
        JoinVessel x = new JoinVessel();
        x.channel(false);
        x.channel(false);
        x.channel(true);
        x.channel(true);
        return x;
    }

    /** As withChannels, with reaction 0, which has so many parts on channel 0 without a test. */
    static JoinVessel withParts(int parts) {
        JoinVessel x = withChannels();
        x.reaction();
        for (int i = 0; i < parts; i++) {
            x.part(0, 0, 0, 0);
        }
        return x;
    }

    /** Sealed: reaction 0 takes a message from channel 0, reaction 1 a call from channel 2 and answers it. */
    static JoinVessel sealed() {
        JoinVessel x = withParts(1);
        x.reaction();
        x.part(1, 2, 0, 0);
        x.reply(1, 0, 1, 0, 0);
        x.seal();
        return x;
    }

    /** Makes so many messages on channel 0 of a vessel whose reaction 0 takes one from there. */
    static void makeMessages(JoinVessel x, int count) {
        for (int made = 0; made < count; made++) {
            x.put(0, made);
            if (made % 5 == 4 || made == count - 1) {
                x.react(5);
            }
        }
    }

    /** What a vessel of few messages answers to the calls that change nothing: 84 calls of its 512. */
    static String seen(JoinVessel x) {
        StringBuilder text = new StringBuilder();
        text.append(x.enabled()).append(' ').append(x.next());
        for (int part = 0; part < 4; part++) {
            text.append(' ').append(x.taken(part));
        }
        for (int c = 0; c < 4; c++) {
            text.append(" /");
            for (int k = 0; k < 7; k++) {
                text.append(' ').append(x.pendingAt(c, k));
            }
        }
        for (int m = 0; m < 10; m++) {
            text.append(" / ").append(x.value(m)).append(' ').append(x.state(m)).append(' ')
                    .append(x.consumer(m)).append(' ').append(x.answer(m)).append(' ').append(x.fired(m));
        }
        return text.toString();
    }
}
