import java.util.Random;

/**
 * Long runs of calls, right and wrong ones, on a vessel and on a second writing of the document
 * (Model), whose answers must agree. The seeds are fixed: every run of this test is the same.
 */
public final class ModelTest {
    private static final int RUNS = 4000;
    private static final int CALLS = 512;
    private static final int[] WILD = {-1, 8, 300, Integer.MIN_VALUE, Integer.MAX_VALUE};

    private final Random random;
    private final JoinVessel vessel = new JoinVessel();
    private final Model model = new Model();
    private final String run;
    private final int spread;

    private ModelTest(int seed) {
        random = new Random(seed);
        run = "run " + seed + ": ";
        spread = new int[] {2, 4, 10, 40}[random.nextInt(4)];
    }

    public static void main(String[] args) {
        int made = 0;
        int fired = 0;
        for (int seed = 0; seed < RUNS; seed++) {
            ModelTest test = new ModelTest(seed);
            test.build();
            test.use();
            made = Math.max(made, test.model.messages.size());
            fired = Math.max(fired, test.model.firings.size());
        }
        // If this fails, the runs no longer come to the limit that they are meant to try.
        Due.due("most messages of a run", made, 300);
        Due.due("more than 150 firings in a run", fired > 150, true);
        Due.end();
    }

    private int number(int below) {
        return random.nextInt(40) == 0 ? WILD[random.nextInt(WILD.length)] : random.nextInt(below);
    }

    private int value() {
        switch (random.nextInt(30)) {
            case 0:
                return Integer.MAX_VALUE - random.nextInt(3);
            case 1:
                return Integer.MIN_VALUE + random.nextInt(3);
            case 2:
                return random.nextInt();
            default:
                return random.nextInt(spread) - spread / 4;
        }
    }

    private void build() {
        int channels = 1 + random.nextInt(random.nextBoolean() ? 3 : 9);
        int reactions = 1 + random.nextInt(random.nextBoolean() ? 3 : 9);
        for (int i = 0; i < channels; i++) {
            addChannel(random.nextInt(3) == 0);
        }
        for (int r = 0; r < reactions; r++) {
            addReaction();
            int steps = 2 + random.nextInt(8);
            addPart(Math.min(r, 7));
            for (int i = 0; i < steps; i++) {
                addToReaction(random.nextInt(10) == 0 ? number(9) : r);
            }
        }
        trySeal();
        // Answers every part that needs it, so that most runs come to a sealed vessel.
        for (int r = 0; r < 8 && !model.sealed; r++) {
            for (int part = 0; part < 4; part++) {
                addReply(r, part);
            }
        }
        trySeal();
    }

    private void addToReaction(int r) {
        switch (random.nextInt(7)) {
            case 0:
            case 1:
                addPart(r);
                break;
            case 2:
                addGuard(r);
                break;
            case 3:
            case 4:
                addReply(r, number(4));
                break;
            default:
                addEmit(r);
                break;
        }
    }

    private void use() {
        // Enough of the 512 calls are left: building takes at most some 150 of them.
        int calls = CALLS - 160;
        boolean busy = random.nextBoolean();
        for (int i = 0; i < calls; i++) {
            int choice = random.nextInt(busy ? 40 : 100);
            if (choice < 22) {
                tryPut();
            } else if (choice < 29) {
                tryCall();
            } else if (choice < 40) {
                tryReact();
            } else if (choice < 44) {
                int m = message();
                Due.due(run + "withdraw(" + m + ")", vessel.withdraw(m), model.withdraw(m));
            } else if (choice < 46) {
                tryBuilding();
            } else {
                look(choice % 9);
            }
        }
    }

    private int message() {
        return number(model.messages.size() + 2);
    }

    private void addChannel(boolean answered) {
        Due.due(run + "channel(" + answered + ")", vessel.channel(answered), model.channel(answered));
    }

    private void addReaction() {
        Due.due(run + "reaction()", vessel.reaction(), model.reaction());
    }

    private void addPart(int r) {
        int c = number(model.channels.size() + 1);
        int test = random.nextInt(3) == 0 ? number(6) : 0;
        int n = value();
        Due.due(run + "part(" + r + ", " + c + ", " + test + ", " + n + ")", vessel.part(r, c, test, n),
                model.part(r, c, test, n));
    }

    private void addGuard(int r) {
        int kind = number(7);
        int n = value();
        Due.due(run + "guard(" + r + ", " + kind + ", " + n + ")", vessel.guard(r, kind, n), model.guard(r, kind, n));
    }

    private void addEmit(int r) {
        int c = number(model.channels.size() + 1);
        int kind = number(6);
        int p = number(5);
        int n = value();
        Due.due(run + "emit(" + r + ", " + c + ", " + kind + ", " + p + ", " + n + ")",
                vessel.emit(r, c, kind, p, n), model.emit(r, c, kind, p, n));
    }

    private void addReply(int r, int part) {
        int kind = number(5);
        int p = number(4);
        int n = value();
        Due.due(run + "reply(" + r + ", " + part + ", " + kind + ", " + p + ", " + n + ")",
                vessel.reply(r, part, kind, p, n), model.reply(r, part, kind, p, n));
    }

    private void trySeal() {
        Due.due(run + "seal()", vessel.seal(), model.seal());
    }

    private void tryPut() {
        int c = number(model.channels.size());
        int v = value();
        Due.due(run + "put(" + c + ", " + v + ")", vessel.put(c, v), model.put(c, v));
    }

    private void tryCall() {
        int c = number(model.channels.size());
        int v = value();
        Due.due(run + "call(" + c + ", " + v + ")", vessel.call(c, v), model.call(c, v));
    }

    private void tryReact() {
        int n = number(7);
        Due.due(run + "react(" + n + ")", vessel.react(n), model.react(n));
    }

    private void tryBuilding() {
        switch (random.nextInt(4)) {
            case 0:
                addChannel(random.nextBoolean());
                break;
            case 1:
                addReaction();
                break;
            case 2:
                trySeal();
                break;
            default:
                addToReaction(number(9));
                break;
        }
    }

    private void look(int at) {
        int m = message();
        int c = number(9);
        int k = number(8);
        switch (at) {
            case 0:
                Due.due(run + "enabled()", vessel.enabled(), model.enabled());
                break;
            case 1:
                Due.due(run + "next()", vessel.next(), model.next());
                break;
            case 2:
                Due.due(run + "taken(" + k + ")", vessel.taken(k), model.taken(k));
                break;
            case 3:
                Due.due(run + "pendingAt(" + c + ", " + k + ")", vessel.pendingAt(c, k), model.pendingAt(c, k));
                break;
            case 4:
                Due.due(run + "value(" + m + ")", vessel.value(m), model.value(m));
                break;
            case 5:
                Due.due(run + "state(" + m + ")", vessel.state(m), model.state(m));
                break;
            case 6:
                Due.due(run + "consumer(" + m + ")", vessel.consumer(m), model.consumer(m));
                break;
            case 7:
                Due.due(run + "answer(" + m + ")", vessel.answer(m), model.answer(m));
                break;
            default:
                Due.due(run + "fired(" + m + ")", vessel.fired(m), model.fired(m));
                break;
        }
    }
}
