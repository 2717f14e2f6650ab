/** Promises 6 to 11 and 15, 16: what happens to links and bridges, and what time does then. */
public final class CommandsTest {
    public static void main(String[] args) {
        fail();
        failEndsWaitingAndOwner();
        heal();
        lose();
        order();
        orderOfOwner();
        clear();
        ticks();
        holds();
        told();
        Check.end();
    }

    private static void fail() {
        RingGuard laid = Check.twoRings(1, 0, 3, 3);
        Check.refusesState("fail() before start()", () -> laid.fail(0));
        Check.refusesArgument("wrong fail() before start()", () -> laid.fail(6));
        RingGuard net = Check.ring(4, 0, 0);
        Check.refusesArgument("fail(-1)", () -> net.fail(-1));
        Check.refusesArgument("fail(4)", () -> net.fail(4));
        Check.isTrue("fail(2)", net.fail(2));
        Check.equal("its first port", net.holds(2, 2), 1);
        Check.equal("its second port", net.holds(3, 2), 1);
        Check.equal("NEWS to the first", net.told(2, 0, 0), 1);
        Check.equal("NEWS to the second", net.told(3, 0, 0), 1);
        Check.isFalse("fail(2) again", net.fail(2));
        Check.equal("no NEWS of that", net.told(2, 0, 0), 1);
        Check.equal("no guard", net.told(2, 0, 1), 0);
        Check.equal("the owner still holds", net.holds(0, 0), 16);
        net.ticks(1);
        Check.equal("FAIL of two, DONE of one", net.casts(), 4);
        net.ticks(1);
        Check.equal("the owner heard FAIL", net.holds(0, 0), 0);
        Check.equal("NEWS to the owner", net.told(0, 0, 0), 2);
    }

    private static void failEndsWaitingAndOwner() {
        RingGuard net = Check.ring(4, 0, 0);
        net.fail(3);
        Check.equal("DOWN at the owner ends its hold", net.holds(0, 0), 0);
        net.heal(3);
        Check.equal("WAITING", net.holds(0, 3), 8);
        net.ticks(1);
        Check.equal("the clock", net.told(0, 0, 2), 60);
        net.fail(3);
        Check.equal("DOWN instead of WAITING", net.holds(0, 3), 1);
        Check.equal("the clock stops", net.told(0, 0, 2), 0);
        Check.equal("guard goes on", net.told(0, 0, 1), 11);
        RingGuard other = Check.ring(4, 0, 0);
        other.fail(3);
        other.heal(3);
        other.fail(0);
        Check.equal("WAITING stays at another port", other.holds(0, 3), 8);
        Check.equal("the protection link itself", other.holds(0, 0), 1);
    }

    private static void heal() {
        RingGuard laid = Check.twoRings(1, 0, 3, 3);
        Check.refusesState("heal() before start()", () -> laid.heal(0));
        Check.refusesArgument("wrong heal() before start()", () -> laid.heal(-1));
        RingGuard net = Check.ring(4, 0, 0);
        Check.refusesArgument("heal(4)", () -> net.heal(4));
        Check.isFalse("heal() of a link that is well", net.heal(1));
        Check.equal("no hold of that", net.holds(1, 1), 0);
        Check.equal("no guard of that", net.told(1, 0, 1), 0);
        net.fail(1);
        Check.isTrue("heal(1)", net.heal(1));
        Check.equal("WAITING at the first", net.holds(1, 1), 8);
        Check.equal("WAITING at the second", net.holds(2, 1), 8);
        Check.equal("guard of the first", net.told(1, 0, 1), 12);
        Check.equal("guard of the second", net.told(2, 0, 1), 12);
        Check.equal("no guard of others", net.told(3, 0, 1), 0);
        Check.equal("no NEWS of it", net.told(1, 0, 0), 1);
        net.order(1, 1, true);
        net.fail(1);
        net.ticks(5);
        net.heal(1);
        Check.equal("a command stays", net.holds(1, 1), 10);
        Check.equal("guard anew", net.told(1, 0, 1), 12);
    }

    private static void lose() {
        RingGuard laid = Check.twoRings(1, 0, 3, 3);
        Check.refusesState("lose() before start()", () -> laid.lose(0, 1));
        Check.refusesArgument("wrong lose() before start()", () -> laid.lose(0, 1001));
        RingGuard net = Check.ring(3, 0, 0);
        Check.refusesArgument("lose(3, 0)", () -> net.lose(3, 0));
        Check.refusesArgument("lose(-1, 0)", () -> net.lose(-1, 0));
        Check.refusesArgument("lose(0, -1)", () -> net.lose(0, -1));
        Check.refusesArgument("lose(0, 1001)", () -> net.lose(0, 1001));
        Check.equal("lose(0, 1000)", net.lose(0, 1000), 0);
        Check.equal("lose(0, 1)", net.lose(0, 1), 1000);
        net.ticks(1);
        Check.equal("nothing arrived yet", net.lost(), 0);
        net.ticks(1);
        Check.equal("one is lost", net.lost(), 1);
        // Tick 1: DONE both ways; the one over link 0 is lost in tick 2, when two more are sent.
        Check.equal("three are left", net.casts(), 3);
        Check.equal("nothing more to lose", net.lose(0, 0), 0);
        net.lose(1, 2);
        net.ticks(200);
        Check.equal("both ways count", net.lost(), 3);
        Check.equal("all of them are lost", net.lose(1, 0), 0);
        Check.equal("the other links lose none", net.lose(2, 0), 0);
        loseIsNotForFailedLinks();
    }

    private static void loseIsNotForFailedLinks() {
        RingGuard net = Check.ring(3, 0, 0);
        net.ticks(1);
        net.lose(0, 5);
        net.fail(0);
        Check.equal("still on the links", net.casts(), 2);
        net.ticks(1);
        Check.equal("gone, not LOST", net.lost(), 0);
        Check.equal("none was to be lost", net.lose(0, 0), 5);
    }

    private static void order() {
        RingGuard laid = Check.twoRings(1, 0, 3, 3);
        Check.refusesState("order() before start()", () -> laid.order(0, 0, true));
        Check.refusesArgument("wrong order() before start()", () -> laid.order(3, 0, true));
        RingGuard net = Check.ring(4, 0, 0);
        Check.refusesArgument("order(-1, 0, true)", () -> net.order(-1, 0, true));
        Check.refusesArgument("order(4, 0, true)", () -> net.order(4, 0, true));
        Check.refusesArgument("order(0, -1, true)", () -> net.order(0, -1, true));
        Check.refusesArgument("order(0, 4, true)", () -> net.order(0, 4, true));
        Check.refusesArgument("order(0, 1, true)", () -> net.order(0, 1, true));
        Check.isTrue("MANUAL", net.order(2, 2, false));
        Check.equal("its hold", net.holds(2, 2), 4);
        Check.isFalse("the same", net.order(2, 2, false));
        Check.equal("one NEWS", net.told(2, 0, 0), 1);
        Check.equal("no guard", net.told(2, 0, 1), 0);
        Check.isTrue("FORCED instead", net.order(2, 2, true));
        Check.equal("MANUAL became WAITING", net.holds(2, 2), 10);
        Check.equal("guard", net.told(2, 0, 1), 12);
        Check.equal("two NEWS", net.told(2, 0, 0), 2);
        net.ticks(3);
        Check.isTrue("at the other port", net.order(2, 1, true));
        Check.equal("FORCED became WAITING", net.holds(2, 2), 8);
        Check.equal("the new one", net.holds(2, 1), 2);
        Check.equal("guard anew", net.told(2, 0, 1), 12);
        net.ticks(11);
        Check.equal("WAITING as long as there is guard", net.holds(2, 2), 8);
        net.ticks(1);
        Check.equal("active without guard: no more", net.holds(2, 2), 0);
        Check.equal("the command stays", net.holds(2, 1), 2);
    }

    private static void orderOfOwner() {
        RingGuard net = Check.ring(4, 0, 0);
        net.order(0, 3, false);
        Check.equal("the owner's hold ends", net.holds(0, 0), 0);
        Check.equal("the command", net.holds(0, 3), 4);
        Check.equal("no guard of that", net.told(0, 0, 1), 0);
        RingGuard two = Check.twoRings(1, 0, 4, 4);
        two.start();
        two.order(0, 0, true);
        Check.equal("FLUSH in the other ring alone", two.casts(), 2);
        Check.isTrue("a command in each ring", two.order(0, 3, true));
        Check.equal("the one in ring 0 stays", two.holds(0, 0), 2);
        Check.equal("FLUSH in ring 0, too", two.casts(), 4);
        Check.equal("NEWS of each", two.told(0, 0, 0), 2);
    }

    private static void clear() {
        RingGuard laid = Check.twoRings(1, 0, 3, 3);
        Check.refusesState("clear() before start()", () -> laid.clear(0, 0));
        Check.refusesArgument("wrong clear() before start()", () -> laid.clear(5, 0));
        RingGuard net = Check.twoRings(1, 0, 4, 4);
        net.start();
        Check.refusesArgument("clear(-1, 0)", () -> net.clear(-1, 0));
        Check.refusesArgument("clear(5, 0)", () -> net.clear(5, 0));
        Check.refusesArgument("clear(0, -1)", () -> net.clear(0, -1));
        Check.refusesArgument("clear(0, 6)", () -> net.clear(0, 6));
        Check.isFalse("no command", net.clear(0, 0));
        Check.isFalse("not in the ring", net.clear(3, 0));
        Check.isFalse("a ring without links", net.clear(3, 5));
        net.order(0, 3, true);
        net.fail(2);
        Check.isFalse("the command is in ring 1, DOWN is none", net.clear(0, 0));
        Check.isTrue("clear(0, 1)", net.clear(0, 1));
        Check.equal("WAITING", net.holds(0, 3), 8);
        Check.equal("guard in ring 1", net.told(0, 1, 1), 14);
        Check.equal("none in ring 0", net.told(0, 0, 1), 0);
        Check.isFalse("clear(0, 1) again", net.clear(0, 1));
    }

    private static void ticks() {
        RingGuard laid = Check.twoRings(1, 0, 3, 3);
        Check.refusesState("ticks() before start()", () -> laid.ticks(1));
        Check.refusesArgument("wrong ticks() before start()", () -> laid.ticks(0));
        RingGuard net = Check.ring(3, 0, 0);
        Check.refusesArgument("ticks(0)", () -> net.ticks(0));
        Check.refusesArgument("ticks(-5)", () -> net.ticks(-5));
        Check.refusesArgument("ticks(201)", () -> net.ticks(201));
        for (int i = 1; i <= 99; i++) {
            Check.equal("ticks(200)", net.ticks(200), 200 * i);
        }
        Check.equal("ticks(199)", net.ticks(199), 19999);
        Check.refusesState("20001 ticks", () -> net.ticks(2));
        Check.equal("the last tick", net.ticks(1), 20000);
        Check.refusesState("one more", () -> net.ticks(1));
        Check.refusesArgument("wrong ones", () -> net.ticks(0));
    }

    private static void holds() {
        RingGuard laid = Check.twoRings(1, 0, 3, 3);
        Check.equal("holds() before start()", laid.holds(1, 0), 0);
        RingGuard net = Check.ring(4, 0, 0);
        Check.refusesArgument("holds(-1, 0)", () -> net.holds(-1, 0));
        Check.refusesArgument("holds(4, 0)", () -> net.holds(4, 0));
        Check.refusesArgument("holds(0, -1)", () -> net.holds(0, -1));
        Check.refusesArgument("holds(0, 4)", () -> net.holds(0, 4));
        Check.refusesArgument("holds(0, 1)", () -> net.holds(0, 1));
        net.order(2, 2, true);
        net.order(2, 2, false);
        net.fail(2);
        Check.equal("DOWN and MANUAL", net.holds(2, 2), 5);
        net.order(2, 2, true);
        Check.equal("DOWN, FORCED and WAITING", net.holds(2, 2), 11);
        Check.equal("the other end", net.holds(3, 2), 1);
        Check.equal("OWNER", net.holds(0, 0), 16);
    }

    private static void told() {
        RingGuard laid = Check.twoRings(1, 0, 3, 3);
        Check.equal("flushes before start()", laid.told(1, 0, 0), 0);
        Check.equal("guard before start()", laid.told(1, 0, 1), 0);
        Check.equal("clock before start()", laid.told(1, 0, 2), 0);
        Check.refusesArgument("told(-1, 0, 0)", () -> laid.told(-1, 0, 0));
        Check.refusesArgument("told(5, 0, 0)", () -> laid.told(5, 0, 0));
        Check.refusesArgument("told(0, -1, 0)", () -> laid.told(0, -1, 0));
        Check.refusesArgument("told(0, 6, 0)", () -> laid.told(0, 6, 0));
        Check.refusesArgument("told(0, 0, -1)", () -> laid.told(0, 0, -1));
        Check.refusesArgument("told(0, 0, 3)", () -> laid.told(0, 0, 3));
        laid.start();
        Check.equal("flushes are the bridge's, whatever the ring", laid.told(3, 5, 0), 1);
        laid.order(3, 3, false);
        laid.clear(3, 1);
        laid.ticks(1);
        Check.equal("guard", laid.told(3, 1, 1), 13);
        Check.equal("guard of a ring where it is not", laid.told(3, 0, 1), 0);
        Check.equal("the owner's clock", laid.told(3, 1, 2), 60);
        Check.equal("whichever bridge is asked", laid.told(4, 1, 2), 60);
        Check.equal("that of another ring", laid.told(3, 0, 2), 0);
    }
}
