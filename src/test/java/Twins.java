import java.util.function.Consumer;
import java.util.function.Function;
import java.util.function.Predicate;
import java.util.function.ToIntFunction;

/**
 * For "A call that is refused changes nothing.": of two vessels built alike, one gets the call that is to
 * be refused; then both must answer alike to a long row of calls that lays open what is inside.
 */
final class Twins {
    private Twins() {
    }

    /** The call answers NONE and changes nothing. */
    static void refused(String what, Consumer<JoinVessel> before, ToIntFunction<JoinVessel> call) {
        refusedWith(what, before, call, JoinVessel.NONE);
    }

    /** The call answers false and changes nothing. */
    static void denied(String what, Consumer<JoinVessel> before, Predicate<JoinVessel> call) {
        refusedWith(what, before, x -> call.test(x) ? 1 : 0, 0);
    }

    /** The call answers this and changes nothing. */
    static void refusedWith(String what, Consumer<JoinVessel> before, ToIntFunction<JoinVessel> call, int answer) {
        compare(what, before, call, answer, Vessels::seen);
        compare(what, before, call, answer, Twins::builtOn);
        compare(what, before, call, answer, Twins::used);
    }

    /** As refused, for a vessel that has few of its 512 calls left. */
    static void refusedLate(String what, Consumer<JoinVessel> before, ToIntFunction<JoinVessel> call) {
        compare(what, before, call, JoinVessel.NONE, Twins::seenLate);
    }

    private static void compare(String what, Consumer<JoinVessel> before, ToIntFunction<JoinVessel> call, int answer,
            Function<JoinVessel, String> after) {
        JoinVessel with = new JoinVessel();
        JoinVessel without = new JoinVessel();
        before.accept(with);
        before.accept(without);
        Due.due(what, call.applyAsInt(with), answer);
        Due.due(what + " (A call that is refused changes nothing.)", after.apply(with), after.apply(without));
    }

    /** Tries to fill every reaction, which tells how many channels, reactions, parts and actions there were. */
    private static String builtOn(JoinVessel x) {
        StringBuilder text = new StringBuilder();
        text.append(x.channel(true)).append(' ').append(x.reaction());
        for (int r = 0; r < 8; r++) {
            text.append(" /");
            for (int i = 0; i < 4; i++) {
                text.append(' ').append(x.part(r, i, 0, 0)).append(' ').append(x.reply(r, i, 0, 0, i));
            }
            for (int i = 0; i < 4; i++) {
                text.append(' ').append(x.emit(r, 0, 0, 0, i));
            }
        }
        text.append(" / ").append(x.seal());
        return text.toString();
    }

    /** Answers every part that needs it, seals the vessel, and lets messages react. */
    private static String used(JoinVessel x) {
        StringBuilder text = new StringBuilder();
        for (int r = 0; r < 8; r++) {
            for (int part = 0; part < 4; part++) {
                text.append(' ').append(x.reply(r, part, 0, 0, 70 + part));
            }
        }
        text.append(" / ").append(x.seal());
        int[] values = {1, 6, 3, 60};
        for (int v : values) {
            for (int c = 0; c < 5; c++) {
                text.append(' ').append(x.put(c, v)).append(' ').append(x.call(c, v));
            }
        }
        for (int i = 0; i < 3; i++) {
            text.append(" / ").append(x.enabled()).append(' ').append(x.react(5));
        }
        for (int m = 0; m < 30; m++) {
            text.append(" / ").append(x.value(m)).append(' ').append(x.state(m)).append(' ')
                    .append(x.consumer(m)).append(' ').append(x.answer(m)).append(' ').append(x.fired(m));
        }
        return text.toString();
    }

    /** What can be seen of the last messages of a vessel in which 300 were made: 73 calls. */
    private static String seenLate(JoinVessel x) {
        StringBuilder text = new StringBuilder();
        text.append(x.enabled()).append(' ').append(x.next()).append(' ').append(x.taken(0));
        for (int c = 0; c < 4; c++) {
            text.append(" /");
            for (int k = 0; k < 7; k++) {
                text.append(' ').append(x.pendingAt(c, k));
            }
        }
        text.append(" / ").append(x.react(5)).append(' ').append(x.enabled());
        for (int m = 294; m < 302; m++) {
            text.append(" / ").append(x.value(m)).append(' ').append(x.state(m)).append(' ')
                    .append(x.consumer(m)).append(' ').append(x.answer(m)).append(' ').append(x.fired(m));
        }
        return text.toString();
    }
}
