/**
 * A vessel in which messages on channels react: a reaction takes one message for each of its
 * parts, if the values fit, and its body puts new messages in and answers the calls that it took.
 */
public final class JoinVessel {
    public static final int NONE = -1;

    private static final int MAX_CHANNELS = 8;
    private static final int MAX_REACTIONS = 8;
    private static final int MAX_PARTS = 4;
    private static final int MAX_ACTIONS = 4;
    private static final int MAX_PENDING = 6;
    private static final int MAX_MESSAGES = 300;
    // Every firing consumes at least one message, so there are never more firings than messages.
    private static final int MAX_FIRINGS = MAX_MESSAGES;
    private static final int MAX_FIRINGS_A_CALL = 5;

    private static final int LAST_TEST = 4;
    private static final int LAST_GUARD = 5;
    private static final int LAST_EXPRESSION = 4;

    private static final int PENDING = 1;
    private static final int CONSUMED = 2;
    private static final int WITHDRAWN = 3;

    private final Channel[] channels = new Channel[MAX_CHANNELS];
    private int channelCount = 0;
    private final Reaction[] reactions = new Reaction[MAX_REACTIONS];
    private int reactionCount = 0;
    private boolean isSealed = false;
    private final Messages messages = new Messages();
    private final Match match = new Match();
    private final int[] firings = new int[MAX_FIRINGS];
    private int firingCount = 0;

    // All rows are made here, once, so that no later call makes an object.
    public JoinVessel() {
        for (int c = 0; c < MAX_CHANNELS; c++) {
            channels[c] = new Channel();
        }
        for (int r = 0; r < MAX_REACTIONS; r++) {
            reactions[r] = new Reaction();
        }
    }

    // ---- building ----

    public int channel(boolean answered) {
        if (isSealed || channelCount >= MAX_CHANNELS) {
            return NONE;
        }
        channels[channelCount].isAnswered = answered;
        channelCount++;
        return channelCount - 1;
    }

    public int reaction() {
        if (isSealed || reactionCount >= MAX_REACTIONS) {
            return NONE;
        }
        reactionCount++;
        return reactionCount - 1;
    }

    public int part(int r, int channel, int test, int n) {
        if (!mayBuild(r) || !isChannel(channel) || !isWithin(test, LAST_TEST)) {
            return NONE;
        }
        if (reactions[r].partCount >= MAX_PARTS) {
            return NONE;
        }
        return reactions[r].addPart(channel, test, n);
    }

    public boolean guard(int r, int kind, int n) {
        if (!mayBuild(r) || !isWithin(kind, LAST_GUARD)) {
            return false;
        }
        reactions[r].guardKind = kind;
        reactions[r].guardNumber = n;
        return true;
    }

    public boolean emit(int r, int channel, int kind, int p, int n) {
        if (!mayBuild(r) || !isChannelOf(channel, false)) {
            return false;
        }
        if (!reactions[r].mayAddAction(kind, p)) {
            return false;
        }
        reactions[r].addAction(true, channel, kind, p, n);
        return true;
    }

    public boolean reply(int r, int part, int kind, int p, int n) {
        if (!mayBuild(r) || !reactions[r].hasPart(part)) {
            return false;
        }
        Reaction reaction = reactions[r];
        if (!channels[reaction.partChannels[part]].isAnswered || reaction.hasReplyTo(part)) {
            return false;
        }
        if (!reaction.mayAddAction(kind, p)) {
            return false;
        }
        reaction.addAction(false, part, kind, p, n);
        return true;
    }

    public int seal() {
        int obstacle = obstacleToSealing();
        if (obstacle == 0) {
            isSealed = true;
        }
        return obstacle;
    }

    // ---- messages put in and taken back ----

    public int put(int channel, int value) {
        return admit(channel, value, false);
    }

    public int call(int channel, int value) {
        return admit(channel, value, true);
    }

    public boolean withdraw(int m) {
        if (!messages.has(m) || messages.states[m] != PENDING) {
            return false;
        }
        Channel channel = channels[messages.channelNumbers[m]];
        if (!channel.isAnswered) {
            return false;
        }
        messages.states[m] = WITHDRAWN;
        channel.removePending(m);
        return true;
    }

    // ---- reacting ----

    public int react(int n) {
        if (!isSealed || !isWithin(n, MAX_FIRINGS_A_CALL)) {
            return NONE;
        }
        for (int count = 0; count < n; count++) {
            int r = findNext();
            if (r == NONE) {
                return count;
            }
            fire(r);
        }
        return n;
    }

    public int enabled() {
        int set = 0;
        for (int r = 0; r < reactionCount; r++) {
            if (findEnabledMatch(r)) {
                set |= 1 << r;
            }
        }
        return set;
    }

    public int next() {
        return findNext();
    }

    public int taken(int part) {
        int r = findNext();
        if (r == NONE || !reactions[r].hasPart(part)) {
            return NONE;
        }
        return match.numbers[part];
    }

    // ---- looking at messages and firings ----

    public int pendingAt(int channel, int k) {
        if (!isChannel(channel) || k < 0 || k >= channels[channel].pendingCount) {
            return NONE;
        }
        return channels[channel].pendingNumbers[k];
    }

    public int value(int m) {
        return messages.has(m) ? messages.values[m] : 0;
    }

    public int state(int m) {
        return messages.has(m) ? messages.states[m] : 0;
    }

    public int consumer(int m) {
        return messages.has(m) ? messages.consumers[m] : NONE;
    }

    public int answer(int m) {
        return messages.has(m) ? messages.answers[m] : 0;
    }

    public int fired(int k) {
        return k >= 0 && k < firingCount ? firings[k] : NONE;
    }

    // ---- what the calls above share ----

    private static boolean isWithin(int kind, int last) {
        return kind >= 0 && kind <= last;
    }

    private boolean isChannel(int c) {
        return c >= 0 && c < channelCount;
    }

    private boolean isChannelOf(int c, boolean answered) {
        return isChannel(c) && channels[c].isAnswered == answered;
    }

    private boolean mayBuild(int r) {
        return !isSealed && r >= 0 && r < reactionCount;
    }

    private int obstacleToSealing() {
        if (isSealed) {
            return 1;
        }
        if (reactionCount == 0) {
            return 2;
        }
        for (int r = 0; r < reactionCount; r++) {
            if (reactions[r].partCount == 0) {
                return 3;
            }
        }
        for (int r = 0; r < reactionCount; r++) {
            if (leavesCallUnanswered(reactions[r])) {
                return 4;
            }
        }
        return 0;
    }

    private boolean leavesCallUnanswered(Reaction reaction) {
        for (int part = 0; part < reaction.partCount; part++) {
            if (channels[reaction.partChannels[part]].isAnswered && !reaction.hasReplyTo(part)) {
                return true;
            }
        }
        return false;
    }

    private int admit(int c, int v, boolean answered) {
        if (!isSealed || !isChannelOf(c, answered)) {
            return NONE;
        }
        if (channels[c].pendingCount >= MAX_PENDING || messages.count >= MAX_MESSAGES) {
            return NONE;
        }
        return makeMessage(c, v);
    }

    // The callers have seen that the channel and the vessel have a place left.
    private int makeMessage(int c, int v) {
        int m = messages.add(c, v);
        channels[c].addPending(m);
        return m;
    }

    // When a reaction is answered, its first match stands in match.
    private int findNext() {
        int first = firingCount == 0 ? 0 : firings[firingCount - 1] + 1;
        for (int step = 0; step < reactionCount; step++) {
            int r = (first + step) % reactionCount;
            if (findEnabledMatch(r)) {
                return r;
            }
        }
        return NONE;
    }

    // Room is looked at first, because it is cheap beside the search.
    private boolean findEnabledMatch(int r) {
        return isSealed && hasRoom(reactions[r]) && fillMatch(match, reactions[r], channels, messages, 0);
    }

    private boolean hasRoom(Reaction reaction) {
        if (messages.count + reaction.sendCount() > MAX_MESSAGES) {
            return false;
        }
        for (int c = 0; c < channelCount; c++) {
            int left = channels[c].pendingCount - reaction.partsOn(c) + reaction.sendsTo(c);
            if (left > MAX_PENDING) {
                return false;
            }
        }
        return true;
    }

    // Pending numbers rise, and earlier parts change last: so the first row found is the FIRST match.
    private static boolean fillMatch(Match match, Reaction reaction, Channel[] channels, Messages messages, int part) {
        if (part >= MAX_PARTS || part >= reaction.partCount) {
            return reaction.guardHolds(match.values);
        }
        Channel channel = channels[reaction.partChannels[part]];
        for (int k = 0; k < channel.pendingCount; k++) {
            int m = channel.pendingNumbers[k];
            int v = messages.values[m];
            if (reaction.passesTest(part, v) && !match.holdsBefore(part, m)) {
                match.numbers[part] = m;
                match.values[part] = v;
                if (fillMatch(match, reaction, channels, messages, part + 1)) {
                    return true;
                }
            }
        }
        return false;
    }

    // The reaction is enabled, and its first match stands in match.
    private void fire(int r) {
        Reaction reaction = reactions[r];
        for (int part = 0; part < reaction.partCount; part++) {
            consume(match.numbers[part]);
        }
        for (int a = 0; a < reaction.actionCount; a++) {
            int result = reaction.evaluate(a, match.values);
            if (reaction.actionSends[a]) {
                makeMessage(reaction.actionTargets[a], result);
            } else {
                messages.answers[match.numbers[reaction.actionTargets[a]]] = result;
            }
        }
        firings[firingCount] = r;
        firingCount++;
    }

    private void consume(int m) {
        messages.states[m] = CONSUMED;
        messages.consumers[m] = firingCount;
        channels[messages.channelNumbers[m]].removePending(m);
    }

    private static long sum(int[] values, int count) {
        long total = 0;
        for (int i = 0; i < count; i++) {
            total += values[i];
        }
        return total;
    }

    private static int greatest(int[] values, int count) {
        int most = values[0];
        for (int i = 1; i < count; i++) {
            most = Math.max(most, values[i]);
        }
        return most;
    }

    private static boolean allRise(int[] values, int count) {
        for (int i = 1; i < count; i++) {
            if (values[i - 1] >= values[i]) {
                return false;
            }
        }
        return true;
    }

    private static boolean allEqual(int[] values, int count) {
        for (int i = 1; i < count; i++) {
            if (values[i] != values[0]) {
                return false;
            }
        }
        return true;
    }

    private static boolean allDiffer(int[] values, int count) {
        for (int i = 1; i < count; i++) {
            for (int j = 0; j < i; j++) {
                if (values[i] == values[j]) {
                    return false;
                }
            }
        }
        return true;
    }

    private static final class Channel {
        private boolean isAnswered = false;
        // Kept in rising order: a new message has the greatest number of all.
        private final int[] pendingNumbers = new int[MAX_PENDING];
        private int pendingCount = 0;

        private void addPending(int m) {
            pendingNumbers[pendingCount] = m;
            pendingCount++;
        }

        private void removePending(int m) {
            int kept = 0;
            for (int k = 0; k < pendingCount; k++) {
                if (pendingNumbers[k] != m) {
                    pendingNumbers[kept] = pendingNumbers[k];
                    kept++;
                }
            }
            pendingCount = kept;
        }
    }

    private static final class Messages {
        private int count = 0;
        private final int[] channelNumbers = new int[MAX_MESSAGES];
        private final int[] values = new int[MAX_MESSAGES];
        private final int[] states = new int[MAX_MESSAGES];
        private final int[] consumers = new int[MAX_MESSAGES];
        private final int[] answers = new int[MAX_MESSAGES];

        private boolean has(int m) {
            return m >= 0 && m < count;
        }

        private int add(int c, int v) {
            int m = count;
            channelNumbers[m] = c;
            values[m] = v;
            states[m] = PENDING;
            consumers[m] = NONE;
            count++;
            return m;
        }
    }

    /** The row of messages that the search is at, and their values, one of each for a part. */
    private static final class Match {
        private final int[] numbers = new int[MAX_PARTS];
        private final int[] values = new int[MAX_PARTS];

        private boolean holdsBefore(int part, int m) {
            for (int i = 0; i < part; i++) {
                if (numbers[i] == m) {
                    return true;
                }
            }
            return false;
        }
    }

    private static final class Reaction {
        private int partCount = 0;
        private final int[] partChannels = new int[MAX_PARTS];
        private final int[] partTests = new int[MAX_PARTS];
        private final int[] partNumbers = new int[MAX_PARTS];
        private int guardKind = 0;
        private int guardNumber = 0;
        private int actionCount = 0;
        private final boolean[] actionSends = new boolean[MAX_ACTIONS];
        // The channel of an action that sends, the part of an action that answers.
        private final int[] actionTargets = new int[MAX_ACTIONS];
        private final int[] actionKinds = new int[MAX_ACTIONS];
        private final int[] actionParts = new int[MAX_ACTIONS];
        private final int[] actionNumbers = new int[MAX_ACTIONS];

        private int addPart(int c, int test, int n) {
            int part = partCount;
            partChannels[part] = c;
            partTests[part] = test;
            partNumbers[part] = n;
            partCount++;
            return part;
        }

        private boolean hasPart(int part) {
            return part >= 0 && part < partCount;
        }

        private boolean mayAddAction(int kind, int p) {
            if (!isWithin(kind, LAST_EXPRESSION) || actionCount >= MAX_ACTIONS) {
                return false;
            }
            boolean looksAtPart = kind == 1 || kind == 2;
            return !looksAtPart || hasPart(p);
        }

        private void addAction(boolean sends, int target, int kind, int p, int n) {
            int a = actionCount;
            actionSends[a] = sends;
            actionTargets[a] = target;
            actionKinds[a] = kind;
            actionParts[a] = p;
            actionNumbers[a] = n;
            actionCount++;
        }

        private boolean hasReplyTo(int part) {
            for (int a = 0; a < actionCount; a++) {
                if (!actionSends[a] && actionTargets[a] == part) {
                    return true;
                }
            }
            return false;
        }

        private int partsOn(int c) {
            int count = 0;
            for (int part = 0; part < partCount; part++) {
                if (partChannels[part] == c) {
                    count++;
                }
            }
            return count;
        }

        private int sendCount() {
            int count = 0;
            for (int a = 0; a < actionCount; a++) {
                if (actionSends[a]) {
                    count++;
                }
            }
            return count;
        }

        private int sendsTo(int c) {
            int count = 0;
            for (int a = 0; a < actionCount; a++) {
                if (actionSends[a] && actionTargets[a] == c) {
                    count++;
                }
            }
            return count;
        }

        private boolean passesTest(int part, int v) {
            int n = partNumbers[part];
            switch (partTests[part]) {
                case 1:
                    return v == n;
                case 2:
                    return v < n;
                case 3:
                    return v >= n;
                case 4:
                    return (v & n) != 0;
                default:
                    return true;
            }
        }

        private boolean guardHolds(int[] values) {
            switch (guardKind) {
                case 1:
                    return allRise(values, partCount);
                case 2:
                    return allEqual(values, partCount);
                case 3:
                    return allDiffer(values, partCount);
                case 4:
                    return sum(values, partCount) <= guardNumber;
                case 5:
                    return guardNumber != 0 && sum(values, partCount) % guardNumber == 0;
                default:
                    return true;
            }
        }

        private int evaluate(int a, int[] values) {
            int n = actionNumbers[a];
            switch (actionKinds[a]) {
                case 1:
                    return values[actionParts[a]] + n;
                case 2:
                    return values[actionParts[a]] * n;
                case 3:
                    return (int) sum(values, partCount) + n;
                case 4:
                    return greatest(values, partCount);
                default:
                    return n;
            }
        }
    }
}
