import java.math.BigInteger;
import java.util.ArrayList;
import java.util.HashSet;
import java.util.List;

/**
 * The document written a second time, in another way: it keeps no row of PENDING messages, makes
 * every match of a reaction and picks the least one, and reckons sums with BigInteger.
 */
final class Model {
    private static final int NONE = -1;

    record Part(int channel, int test, int n) {
    }

    record Action(int channel, int answeredPart, int kind, int p, int n) {
    }

    static final class Reaction {
        final List<Part> parts = new ArrayList<>();
        final List<Action> actions = new ArrayList<>();
        int guardKind = 0;
        int guardN = 0;
    }

    static final class Message {
        final int channel;
        final int value;
        int state = 1;
        int consumer = NONE;
        int answer = 0;

        Message(int channel, int value) {
            this.channel = channel;
            this.value = value;
        }
    }

    final List<Boolean> channels = new ArrayList<>();
    final List<Reaction> reactions = new ArrayList<>();
    final List<Message> messages = new ArrayList<>();
    final List<Integer> firings = new ArrayList<>();
    boolean sealed = false;

    private static boolean in(int i, List<?> list) {
        return i >= 0 && i < list.size();
    }

    int channel(boolean answered) {
        if (sealed || channels.size() == 8) {
            return NONE;
        }
        channels.add(answered);
        return channels.size() - 1;
    }

    int reaction() {
        if (sealed || reactions.size() == 8) {
            return NONE;
        }
        reactions.add(new Reaction());
        return reactions.size() - 1;
    }

    int part(int r, int channel, int test, int n) {
        if (sealed || !in(r, reactions) || !in(channel, channels) || test < 0 || test > 4) {
            return NONE;
        }
        List<Part> parts = reactions.get(r).parts;
        if (parts.size() == 4) {
            return NONE;
        }
        parts.add(new Part(channel, test, n));
        return parts.size() - 1;
    }

    boolean guard(int r, int kind, int n) {
        if (sealed || !in(r, reactions) || kind < 0 || kind > 5) {
            return false;
        }
        reactions.get(r).guardKind = kind;
        reactions.get(r).guardN = n;
        return true;
    }

    private static boolean addAction(Reaction reaction, Action action) {
        boolean noPart = (action.kind == 1 || action.kind == 2) && !in(action.p, reaction.parts);
        if (action.kind < 0 || action.kind > 4 || noPart || reaction.actions.size() == 4) {
            return false;
        }
        return reaction.actions.add(action);
    }

    boolean emit(int r, int channel, int kind, int p, int n) {
        if (sealed || !in(r, reactions) || !in(channel, channels) || channels.get(channel)) {
            return false;
        }
        return addAction(reactions.get(r), new Action(channel, NONE, kind, p, n));
    }

    private static boolean answers(Reaction reaction, int part) {
        return reaction.actions.stream().anyMatch(a -> a.answeredPart == part);
    }

    boolean reply(int r, int part, int kind, int p, int n) {
        if (sealed || !in(r, reactions) || !in(part, reactions.get(r).parts)) {
            return false;
        }
        Reaction reaction = reactions.get(r);
        if (!channels.get(reaction.parts.get(part).channel) || answers(reaction, part)) {
            return false;
        }
        return addAction(reaction, new Action(NONE, part, kind, p, n));
    }

    int seal() {
        if (sealed) {
            return 1;
        }
        if (reactions.isEmpty()) {
            return 2;
        }
        if (reactions.stream().anyMatch(r -> r.parts.isEmpty())) {
            return 3;
        }
        for (Reaction reaction : reactions) {
            for (int part = 0; part < reaction.parts.size(); part++) {
                if (channels.get(reaction.parts.get(part).channel) && !answers(reaction, part)) {
                    return 4;
                }
            }
        }
        sealed = true;
        return 0;
    }

    private List<Integer> pending(int channel) {
        List<Integer> numbers = new ArrayList<>();
        for (int m = 0; m < messages.size(); m++) {
            if (messages.get(m).channel == channel && messages.get(m).state == 1) {
                numbers.add(m);
            }
        }
        return numbers;
    }

    private int make(int channel, int value, boolean answered) {
        if (!sealed || !in(channel, channels) || channels.get(channel) != answered) {
            return NONE;
        }
        if (pending(channel).size() == 6 || messages.size() == 300) {
            return NONE;
        }
        messages.add(new Message(channel, value));
        return messages.size() - 1;
    }

    int put(int channel, int value) {
        return make(channel, value, false);
    }

    int call(int channel, int value) {
        return make(channel, value, true);
    }

    boolean withdraw(int m) {
        if (!in(m, messages) || !channels.get(messages.get(m).channel) || messages.get(m).state != 1) {
            return false;
        }
        messages.get(m).state = 3;
        return true;
    }

    private static boolean passes(Part part, int v) {
        boolean[] results = {true, v == part.n, v < part.n, !(v < part.n), Integer.bitCount(v & part.n) > 0};
        return results[part.test];
    }

    private static BigInteger sum(List<Integer> values) {
        BigInteger sum = BigInteger.ZERO;
        for (int v : values) {
            sum = sum.add(BigInteger.valueOf(v));
        }
        return sum;
    }

    private static boolean holds(int kind, int n, List<Integer> values) {
        BigInteger number = BigInteger.valueOf(n);
        switch (kind) {
            case 0:
                return true;
            case 1:
                List<Integer> sorted = new ArrayList<>(values);
                sorted.sort(null);
                return sorted.equals(values) && new HashSet<>(values).size() == values.size();
            case 2:
                return new HashSet<>(values).size() == 1;
            case 3:
                return new HashSet<>(values).size() == values.size();
            case 4:
                return sum(values).compareTo(number) <= 0;
            default:
                return n != 0 && sum(values).mod(number.abs()).signum() == 0;
        }
    }

    private List<Integer> valuesOf(List<Integer> row) {
        List<Integer> values = new ArrayList<>();
        for (int m : row) {
            values.add(messages.get(m).value);
        }
        return values;
    }

    /** Every row of different PENDING messages that pass the tests of the parts. */
    private List<List<Integer>> rows(Reaction reaction) {
        List<List<Integer>> rows = new ArrayList<>();
        rows.add(new ArrayList<>());
        for (Part part : reaction.parts) {
            List<List<Integer>> longer = new ArrayList<>();
            for (List<Integer> row : rows) {
                for (int m : pending(part.channel)) {
                    if (!row.contains(m) && passes(part, messages.get(m).value)) {
                        List<Integer> next = new ArrayList<>(row);
                        next.add(m);
                        longer.add(next);
                    }
                }
            }
            rows = longer;
        }
        return rows;
    }

    private static boolean isBefore(List<Integer> row, List<Integer> other) {
        int i = 0;
        while (i < row.size() - 1 && row.get(i).equals(other.get(i))) {
            i++;
        }
        return row.get(i) < other.get(i);
    }

    private List<Integer> firstMatch(Reaction reaction) {
        List<Integer> first = null;
        for (List<Integer> row : rows(reaction)) {
            boolean matches = holds(reaction.guardKind, reaction.guardN, valuesOf(row));
            if (matches && (first == null || isBefore(row, first))) {
                first = row;
            }
        }
        return first;
    }

    private boolean hasRoom(Reaction reaction) {
        int made = messages.size();
        int[] left = new int[channels.size()];
        for (int c = 0; c < left.length; c++) {
            left[c] = pending(c).size();
        }
        for (Part part : reaction.parts) {
            left[part.channel]--;
        }
        for (Action action : reaction.actions) {
            if (action.channel != NONE) {
                left[action.channel]++;
                made++;
            }
        }
        for (int count : left) {
            if (count > 6) {
                return false;
            }
        }
        return made <= 300;
    }

    private boolean isEnabled(int r) {
        return sealed && hasRoom(reactions.get(r)) && firstMatch(reactions.get(r)) != null;
    }

    int enabled() {
        int sum = 0;
        for (int r = 0; r < reactions.size(); r++) {
            sum += isEnabled(r) ? (int) Math.pow(2, r) : 0;
        }
        return sum;
    }

    int next() {
        int last = firings.isEmpty() ? NONE : firings.get(firings.size() - 1);
        for (int r = last + 1; r < reactions.size(); r++) {
            if (isEnabled(r)) {
                return r;
            }
        }
        for (int r = 0; r <= last; r++) {
            if (isEnabled(r)) {
                return r;
            }
        }
        return NONE;
    }

    int taken(int part) {
        int r = next();
        return r == NONE || !in(part, reactions.get(r).parts) ? NONE : firstMatch(reactions.get(r)).get(part);
    }

    private static int result(Action action, List<Integer> values) {
        BigInteger n = BigInteger.valueOf(action.n);
        switch (action.kind) {
            case 0:
                return action.n;
            case 1:
                return BigInteger.valueOf(values.get(action.p)).add(n).intValue();
            case 2:
                return BigInteger.valueOf(values.get(action.p)).multiply(n).intValue();
            case 3:
                return sum(values).add(n).intValue();
            default:
                return values.stream().max(Integer::compare).get();
        }
    }

    private void fire(int r) {
        Reaction reaction = reactions.get(r);
        List<Integer> row = firstMatch(reaction);
        List<Integer> values = valuesOf(row);
        for (int m : row) {
            messages.get(m).state = 2;
            messages.get(m).consumer = firings.size();
        }
        for (Action action : reaction.actions) {
            int result = result(action, values);
            if (action.channel == NONE) {
                messages.get(row.get(action.answeredPart)).answer = result;
            } else {
                messages.add(new Message(action.channel, result));
            }
        }
        firings.add(r);
    }

    int react(int n) {
        if (!sealed || n < 0 || n > 5) {
            return NONE;
        }
        int count = 0;
        while (count < n && next() != NONE) {
            fire(next());
            count++;
        }
        return count;
    }

    int pendingAt(int channel, int k) {
        return in(channel, channels) && in(k, pending(channel)) ? pending(channel).get(k) : NONE;
    }

    int value(int m) {
        return in(m, messages) ? messages.get(m).value : 0;
    }

    int state(int m) {
        return in(m, messages) ? messages.get(m).state : 0;
    }

    int consumer(int m) {
        return in(m, messages) ? messages.get(m).consumer : NONE;
    }

    int answer(int m) {
        return in(m, messages) ? messages.get(m).answer : 0;
    }

    int fired(int k) {
        return in(k, firings) ? firings.get(k) : NONE;
    }
}
