/** Promises 1, 3, 5 and 8: a new object, a new reaction, the guard that stands, and a vessel that is sealed. */
public final class BuildingTest {
    public static void main(String[] args) {
        Due.run(
                BuildingTest::aNewObject,
                BuildingTest::objectsAreApart,
                BuildingTest::aNewReaction,
                BuildingTest::guardIsReplaced,
                BuildingTest::sealedIsForEver);
    }

    private static void aNewObject() {
        Due.sentence("Promise 1: An open vessel without channels and reactions.");
        JoinVessel x = new JoinVessel();
        Due.due("1 NONE", JoinVessel.NONE, -1);
        Due.due("1 seal", x.seal(), 2);
        Due.due("1 enabled", x.enabled(), 0);
        Due.due("1 next", x.next(), -1);
        Due.due("1 taken", x.taken(0), -1);
        Due.due("1 pendingAt", x.pendingAt(0, 0), -1);
        Due.due("1 value", x.value(0), 0);
        Due.due("1 state", x.state(0), 0);
        Due.due("1 consumer", x.consumer(0), -1);
        Due.due("1 answer", x.answer(0), 0);
        Due.due("1 fired", x.fired(0), -1);
        Due.due("1 put", x.put(0, 0), -1);
        Due.due("1 call", x.call(0, 0), -1);
        Due.due("1 react", x.react(0), -1);
        Due.due("1 withdraw", x.withdraw(0), false);
        Due.due("1 no reaction", x.guard(0, 0, 0), false);
        x.reaction();
        Due.due("1 no channel", x.part(0, 0, 0, 0), -1);
        x.channel(false);
        Due.due("1 then a channel", x.part(0, 0, 0, 0), 0);
    }

    private static void objectsAreApart() {
        Due.sentence("Promise 1: An open vessel without channels and reactions.");
        JoinVessel x = Vessels.sealed();
        x.put(0, 7);
        x.react(1);
        String before = Vessels.seen(x);
        JoinVessel y = new JoinVessel();
        Due.due("1 another is open", y.channel(true), 0);
        Due.due("1 another has no reaction", y.reaction(), 0);
        Due.due("1 another has no message", y.state(0), 0);
        Due.due("1 the first is as it was", Vessels.seen(x), before);
    }

    private static void aNewReaction() {
        Due.sentence("Promise 3: Adds a reaction without parts and actions.");
        JoinVessel x = Vessels.withParts(4);
        for (int a = 0; a < 4; a++) {
            x.emit(0, 1, 0, 0, 7);
        }
        x.guard(0, 5, 0);
        Due.due("3 another reaction", x.reaction(), 1);
        Due.due("3 no parts", x.seal(), 3);
        Due.due("3 its first part", x.part(1, 0, 0, 0), 0);
        x.seal();
        x.put(0, 1);
        Due.due("3 it fires, no guard is against it", x.react(5), 1);
        Due.due("3 as reaction 1", x.fired(0), 1);
        Due.due("3 no actions", x.state(1), 0);
    }

    private static void guardIsReplaced() {
        Due.sentence("Promise 5: Makes kind and n the guard of reaction r, in place of what it was.");
        JoinVessel x = Vessels.withParts(1);
        x.reaction();
        x.part(1, 0, 0, 0);
        x.guard(0, 5, 100);
        x.guard(0, 4, 100);
        x.guard(0, 4, 10);
        x.guard(1, 5, 3);
        x.guard(1, 0, 3);
        x.seal();
        x.put(0, 11);
        Due.due("5 beyond the last n, and kind 0 again", x.enabled(), 2);
        x.put(0, 10);
        Due.due("5 at most the last n", x.enabled(), 3);
    }

    private static void sealedIsForEver() {
        Due.sentence("Promise 8: or 0, and the vessel is sealed.");
        JoinVessel x = Vessels.sealed();
        x.put(0, 3);
        String before = Vessels.seen(x);
        Due.due("8 sealed already", x.seal(), 1);
        x.channel(false);
        x.reaction();
        x.part(0, 1, 1, 1);
        x.guard(0, 5, 0);
        x.emit(0, 0, 0, 0, 0);
        Due.due("8 what is refused changes nothing", Vessels.seen(x), before);
        Due.due("8 it still reacts", x.react(5), 1);
        Due.due("8 without the refused action", x.state(1), 0);
    }
}
