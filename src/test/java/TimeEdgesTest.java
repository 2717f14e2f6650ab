/**
 * Promises 6 to 11, 15, 16 and 19 to 22 at their edges: holds, guards, clocks, phases, casts and
 * what is lost of them. Each test stands behind the sentence that it is of.
 */
public final class TimeEdgesTest {
    public static void main(String[] args) {
        failedOrNot();
        sameCommandOrAnother();
        commandOrNone();
        loseNoneAndAThousand();
        loseInsteadOfBefore();
        fewestAndMostTicks();
        lastTick();
        guardOfThree();
        guardOfFortyEight();
        guardAnew();
        waitingAlready();
        activeBehindGuard();
        commandUnderGuard();
        threeHoldsEndTheOwners();
        clockOfWaitingOwner();
        clockRunsOnce();
        clockNotOfActiveOwner();
        clockStops();
        phases();
        sixtyFourCasts();
        sixtyFourEachWay();
        orderOfCasts();
        orderOfLinks();
        onceRound();
        chainEnds();
        strongerCastFirst();
        doneBehindHealed();
        lesserSource();
        forcedStays();
        endedCommandLeavesDown();
        flushIsNewsAlone();
        greaterNumber();
        namesOfLinks();
        namesOfCommands();
        flushOverLinksThatAreWell();
        failedLinkLosesNothing();
        holdsTogether();
        toldOfRings();
        calmAndCircles();
        Check.end();
    }

    /** "A link fails: whether it had not."; "A link is well again: whether it had failed." */
    private static void failedOrNot() {
        RingGuard net = Check.ring(3, 0, 0);
        String before = Seen.of(net);
        Check.isFalse("heal() of a link that never failed", net.heal(2));
        Check.equal("changes nothing", Seen.of(net), before);
        Check.isTrue("fail() of the last link", net.fail(2));
        String failed = Seen.of(net);
        Check.isFalse("fail() of one that has failed", net.fail(2));
        Check.equal("changes nothing", Seen.of(net), failed);
        Check.isTrue("heal()", net.heal(2));
        String healed = Seen.of(net);
        Check.isFalse("heal() of one that is well again", net.heal(2));
        Check.equal("changes nothing", Seen.of(net), healed);
        Check.isTrue("fail() again", net.fail(2));
        Check.isTrue("fail() of the first link", net.fail(0));
        Check.isTrue("fail() of all there are", net.fail(1));
        for (int bridge = 0; bridge < 3; bridge++) {
            Check.equal("DOWN", net.holds(bridge, bridge), 1);
            Check.isFalse("alone", net.joined(bridge, (bridge + 1) % 3));
        }
        net.ticks(10);
        Check.equal("no cast can go anywhere", net.casts(), 0);
    }

    /** "whether it is new (it is not when the bridge has just this one)" */
    private static void sameCommandOrAnother() {
        RingGuard net = Check.ring(3, 0, 0);
        Check.isTrue("the first command", net.order(1, 1, false));
        String manual = Seen.of(net);
        Check.isFalse("just this one", net.order(1, 1, false));
        Check.equal("changes nothing", Seen.of(net), manual);
        Check.isTrue("of another kind", net.order(1, 1, true));
        Check.equal("FORCED, and MANUAL is WAITING", net.holds(1, 1), 2 + 8);
        Check.isTrue("at the other port", net.order(1, 0, true));
        Check.equal("at most one in a ring", net.holds(1, 1), 8);
        Check.equal("the new one", net.holds(1, 0), 2);
        Check.isTrue("the one before, again", net.order(1, 1, true));
        Check.isTrue("another bridge's", net.order(2, 1, true));
        Check.equal("each of four was NEWS", net.told(1, 0, 0), 4);
        net.clear(1, 0);
        Check.isTrue("one that has ended is new", net.order(1, 1, true));
    }

    /** "The bridge's command in a ring ends: whether there was one." */
    private static void commandOrNone() {
        RingGuard net = Check.ring(3, 0, 0);
        String before = Seen.of(net);
        Check.isFalse("no command yet", net.clear(0, 0));
        Check.isFalse("no ring with links", net.clear(0, 5));
        Check.equal("changes nothing", Seen.of(net), before);
        net.order(2, 2, true);
        Check.isFalse("another bridge's command", net.clear(1, 0));
        Check.isTrue("its own", net.clear(2, 0));
        String ended = Seen.of(net);
        Check.isFalse("once", net.clear(2, 0));
        Check.equal("changes nothing", Seen.of(net), ended);
    }

    /** "The next n casts that arrive over a link are lost"; "n is not 0 .. 1000" */
    private static void loseNoneAndAThousand() {
        RingGuard net = Check.ring(3, 0, 0);
        Check.refusesArgument("-1", () -> net.lose(0, -1));
        Check.refusesArgument("1001", () -> net.lose(0, 1001));
        Check.equal("0 is taken", net.lose(0, 0), 0);
        net.ticks(100);
        Check.equal("none is lost", net.lost(), 0);
        Check.equal("1000 are taken", net.lose(0, 1000), 0);
        // DONE goes round both ways every five ticks, so two of them arrive over link 0.
        for (int i = 0; i < 12; i++) {
            net.ticks(200);
        }
        Check.equal("two each five ticks", net.lost(), 960);
        Check.equal("the others are still to be lost", net.lose(0, 40), 40);
        net.ticks(98);
        Check.equal("but for the last", net.lost(), 999);
        net.ticks(200);
        Check.equal("just 1000", net.lost(), 1000);
        Check.equal("none is left", net.lose(0, 0), 0);
    }

    /** "whatever was said before: how many were still to be lost" */
    private static void loseInsteadOfBefore() {
        RingGuard net = Check.ring(3, 0, 0);
        net.lose(0, 1000);
        Check.equal("of 1000", net.lose(0, 3), 1000);
        Check.equal("not added", net.lose(0, 3), 3);
        Check.equal("each link has its own", net.lose(1, 2), 0);
        net.ticks(2);
        Check.equal("the first one over link 0", net.lost(), 1);
        Check.equal("two are left", net.lose(0, 0), 2);
        net.ticks(1);
        Check.equal("none over link 0, one over link 1", net.lost(), 2);
    }

    /** "Illegal argument: n is not 1 .. 200" */
    private static void fewestAndMostTicks() {
        RingGuard net = Check.ring(3, 0, 0);
        Check.refusesArgument("ticks(0)", () -> net.ticks(0));
        Check.equal("ticks(1)", net.ticks(1), 1);
        Check.equal("ticks(200)", net.ticks(200), 201);
        Check.refusesArgument("ticks(201)", () -> net.ticks(201));
        Check.equal("refused ones are none", net.ticks(1), 202);
    }

    /** "illegal state: also if there were more than 20000 in all" */
    private static void lastTick() {
        RingGuard net = Check.ring(3, 0, 0);
        for (int i = 1; i < 100; i++) {
            net.ticks(200);
        }
        Check.equal("19801", net.ticks(1), 19801);
        Check.refusesState("20001", () -> net.ticks(200));
        Check.equal("20000 in one call", net.ticks(199), 20000);
        Check.refusesState("one more", () -> net.ticks(1));
        Check.refusesState("200 more", () -> net.ticks(200));
        Check.refusesArgument("no number of ticks", () -> net.ticks(0));
        Check.isTrue("other calls go on", net.fail(1));
        Check.equal("with their holds", net.holds(1, 1), 1);
    }

    /** "under GUARD in this ring for 2 n + 4 ticks from then on" */
    private static void guardOfThree() {
        RingGuard net = Check.ring(3, 0, 0);
        net.ticks(14);
        net.order(1, 1, false);
        Check.equal("no guard as long as the hold is there", net.told(1, 0, 1), 0);
        net.clear(1, 0);
        Check.equal("2 * 3 + 4", net.told(1, 0, 1), 10);
        net.ticks(9);
        Check.equal("one tick left", net.told(1, 0, 1), 1);
        // The owner sent DONE in tick 23: bridge 1 has it in 24 over link 0, in 25 over link 1.
        net.ticks(1);
        Check.equal("no more", net.told(1, 0, 1), 0);
        Check.equal("DONE of tick 24 was not heard", net.holds(1, 1), 8);
        net.ticks(1);
        Check.equal("not below 0", net.told(1, 0, 1), 0);
        Check.equal("DONE of tick 25 was", net.holds(1, 1), 0);
    }

    /** ".., n being how many bridges there are" */
    private static void guardOfFortyEight() {
        RingGuard net = Check.ring(48, 0, 0);
        net.fail(24);
        net.ticks(23);
        Check.equal("FAIL of bridge 25 has one link to go", net.holds(0, 0), 16);
        net.ticks(1);
        Check.equal("now it was heard", net.holds(0, 0), 0);
        net.heal(24);
        Check.equal("2 * 48 + 4 at the first", net.told(24, 0, 1), 100);
        Check.equal("and at the second", net.told(25, 0, 1), 100);
        net.ticks(99);
        Check.equal("one left", net.told(24, 0, 1), 1);
        net.ticks(1);
        Check.equal("none", net.told(24, 0, 1), 0);
        RingGuard two = Check.twoRings(1, 0, 3, 3);
        two.start();
        two.fail(4);
        two.heal(4);
        Check.equal("bridges of all rings count", two.told(4, 1, 1), 14);
    }

    /** "When such a hold ends .. the bridge is under GUARD .. from then on": each time. */
    private static void guardAnew() {
        RingGuard net = Check.ring(3, 0, 0);
        net.order(1, 1, true);
        net.clear(1, 0);
        net.ticks(4);
        Check.equal("four ticks of it are over", net.told(1, 0, 1), 6);
        net.order(1, 1, true);
        Check.equal("a hold that begins leaves it", net.told(1, 0, 1), 6);
        net.fail(1);
        Check.equal("a link that fails, too", net.told(1, 0, 1), 6);
        net.clear(1, 0);
        Check.equal("one that ends sets it", net.told(1, 0, 1), 10);
        net.ticks(2);
        net.heal(1);
        Check.equal("each one that ends", net.told(1, 0, 1), 10);
        Check.equal("of the other bridge", net.told(2, 0, 1), 10);
    }

    /** "it becomes WAITING (also if that is there already)"; "(WAITING is no more at them)" */
    private static void waitingAlready() {
        RingGuard net = Check.ring(3, 0, 0);
        net.order(1, 1, true);
        net.order(1, 1, false);
        Check.equal("MANUAL, WAITING", net.holds(1, 1), 4 + 8);
        net.order(1, 1, true);
        Check.equal("FORCED, WAITING as it was", net.holds(1, 1), 2 + 8);
        net.fail(1);
        Check.equal("DOWN: no more WAITING", net.holds(1, 1), 1 + 2);
        net.clear(1, 0);
        Check.equal("WAITING beside DOWN", net.holds(1, 1), 1 + 8);
        net.heal(1);
        Check.equal("WAITING alone", net.holds(1, 1), 8);
        net.fail(1);
        net.fail(0);
        Check.equal("WAITING ends with DOWN at this port", net.holds(1, 1), 1);
        net.heal(0);
        net.heal(1);
        net.fail(0);
        Check.equal("not at the bridge's other port", net.holds(1, 1), 8);
    }

    /** "A bridge that is active in the ring, .., and is not under guard: its ports there are no more WAITING." */
    private static void activeBehindGuard() {
        RingGuard net = Check.ring(3, 0, 0);
        net.fail(1);
        net.heal(1);
        net.order(1, 0, true);
        net.ticks(9);
        Check.equal("under guard: WAITING", net.holds(1, 1), 8);
        Check.equal("the other end, not active", net.holds(2, 1), 8);
        net.ticks(1);
        Check.equal("guard is over", net.holds(1, 1), 0);
        Check.equal("not where the bridge is not active", net.holds(2, 1), 8);
        net.ticks(2);
        Check.equal("there it is FORCED that ends it", net.holds(2, 1), 0);
    }

    /** "Then, if it is under guard in the ring, nothing more." */
    private static void commandUnderGuard() {
        RingGuard net = Check.ring(4, 0, 0);
        net.order(3, 3, false);
        net.clear(3, 0);
        net.order(3, 3, false);
        net.order(1, 1, true);
        // Bridge 1 sends FORCED in ticks 1, 2, 3, 8, 13; bridge 3 has it two ticks later.
        net.ticks(11);
        Check.equal("MANUAL and WAITING stay", net.holds(3, 3), 4 + 8);
        Check.equal("one tick of guard", net.told(3, 0, 1), 1);
        net.ticks(1);
        Check.equal("active, and guard is over", net.holds(3, 3), 4);
        net.ticks(2);
        Check.equal("nothing was heard since then", net.holds(3, 3), 4);
        net.ticks(1);
        Check.equal("FORCED ends MANUAL", net.holds(3, 3), 8);
        Check.equal("under guard since this tick", net.told(3, 0, 1), 11);
    }

    /** "The owner's hold ends whenever its bridge gets one of these three holds in the ring" */
    private static void threeHoldsEndTheOwners() {
        for (int i = 0; i < 3; i++) {
            for (int link = 0; link <= 2; link += 2) {
                RingGuard net = Check.ring(3, 0, 0);
                boolean isNew = i == 0 ? net.fail(link) : net.order(0, link, i == 1);
                Check.isTrue("hold " + i + " at link " + link, isNew);
                int due = 1 << i;
                Check.equal("the protection link", net.holds(0, 0), link == 0 ? due : 0);
                Check.equal("the link", net.holds(0, link), due);
                Check.equal("no guard, as it was no such hold", net.told(0, 0, 1), 0);
            }
        }
        RingGuard others = Check.twoRings(0, 0, 0, 3);
        others.start();
        others.fail(1);
        others.order(0, 5, true);
        Check.equal("another bridge's hold, or one in another ring", others.holds(0, 0), 16);
        Check.equal("its own one in that ring", others.holds(0, 3), 0);
    }

    /** "if it is WAITING and its CLOCK does not run, that is set to 60; if it runs, it becomes 1 less" */
    private static void clockOfWaitingOwner() {
        RingGuard net = Check.ring(3, 0, 0);
        net.order(0, 2, false);
        net.ticks(7);
        Check.equal("no clock of an active owner", net.told(0, 0, 2), 0);
        net.clear(0, 0);
        Check.equal("not before a tick", net.told(0, 0, 2), 0);
        for (int due = 60; due >= 1; due--) {
            net.ticks(1);
            Check.equal("the clock", net.told(0, 0, 2), due);
            Check.equal("no hold yet", net.holds(0, 0), 0);
        }
        net.ticks(1);
        Check.equal("at 0 it does not run any more", net.told(0, 0, 2), 0);
        Check.equal("the owner holds", net.holds(0, 0), 16);
        Check.equal("start, the command, a new number", net.told(0, 0, 0), 3);
        net.ticks(1);
        Check.equal("DONE bears it", net.told(1, 0, 0), 2);
        net.ticks(200);
        Check.equal("it stays so", net.told(0, 0, 2) + net.holds(0, 0), 16);
    }

    /** "HEALED: if .., and its clock does not run, that is set to 60." */
    private static void clockRunsOnce() {
        RingGuard net = Check.ring(5, 2, 2);
        net.fail(0);
        net.ticks(20);
        net.heal(0);
        net.ticks(2);
        // Bridge 1 goes on with HEALED, which the owner has in ticks 3, 4, 9, 14 from here, too.
        for (int due = 59; due >= 1; due--) {
            Check.equal("not set again", net.told(2, 0, 2), due);
            net.ticks(1);
        }
        Check.equal("the owner holds", net.holds(2, 2), 16);
    }

    /** "The owner that has no hold and is not active" */
    private static void clockNotOfActiveOwner() {
        RingGuard net = Check.ring(4, 0, 0);
        net.fail(3);
        net.order(2, 1, false);
        net.clear(2, 0);
        net.ticks(5);
        Check.equal("HEALED came, but the owner is DOWN", net.told(0, 0, 2), 0);
        RingGuard both = Check.ring(4, 0, 0);
        both.fail(0);
        both.fail(3);
        both.heal(3);
        both.ticks(30);
        Check.equal("WAITING was there, but the owner is DOWN", both.told(0, 0, 2), 0);
        Check.equal("so it holds nothing", both.holds(0, 3), 0);
        RingGuard holding = Check.ring(4, 0, 0);
        holding.order(2, 1, false);
        holding.clear(2, 0);
        holding.ticks(9);
        Check.equal("HEALED came, but the owner holds", holding.told(0, 0, 2), 0);
    }

    /** "of FAIL, FORCED and MANUAL: the owner's hold ends, and its clock does not run any more" */
    private static void clockStops() {
        RingGuard net = Check.ring(5, 2, 2);
        net.fail(0);
        net.ticks(7);
        net.heal(0);
        net.ticks(10);
        Check.equal("it runs since the second tick", net.told(2, 0, 2), 51);
        net.fail(4);
        net.ticks(2);
        Check.equal("FAIL has one link to go", net.told(2, 0, 2), 49);
        net.ticks(1);
        Check.equal("FAIL was heard", net.told(2, 0, 2), 0);
        net.ticks(100);
        Check.equal("no hold comes of it", net.holds(2, 2), 0);
        RingGuard own = Check.ring(3, 0, 0);
        own.order(0, 0, true);
        own.clear(0, 0);
        own.ticks(60);
        Check.equal("one tick left", own.told(0, 0, 2), 1);
        own.order(0, 2, false);
        Check.equal("a command of its own", own.told(0, 0, 2), 0);
        own.ticks(1);
        Check.equal("no hold of that tick", own.holds(0, 0) & 16, 0);
        own.clear(0, 0);
        own.ticks(1);
        Check.equal("anew", own.told(0, 0, 2), 60);
    }

    /** "if it is 1, 2, 3, 8, 13, 18 and so on, the bridge SENDS"; "0 .. whenever the holds .. change" */
    private static void phases() {
        RingGuard net = Check.ring(48, 0, 0);
        int before = 0;
        for (int tick = 1; tick <= 43; tick++) {
            net.ticks(1);
            boolean sends = tick <= 3 || tick % 5 == 3;
            Check.equal("sent in tick " + tick, net.casts() - before, sends ? 2 : 0);
            before = net.casts();
        }
        RingGuard changed = Check.ring(3, 1, 1);
        changed.ticks(8);
        changed.lose(0, 1000);
        changed.lose(1, 1000);
        changed.lose(2, 1000);
        changed.ticks(2);
        Check.equal("phase 10: nothing on links", changed.casts(), 0);
        changed.order(1, 1, true);
        int[] due = {2, 2, 2, 0, 0, 0, 0, 2, 0, 0};
        for (int i = 0; i < due.length; i++) {
            changed.ticks(1);
            Check.equal("behind the change, tick " + (i + 1), changed.casts(), due[i]);
        }
        changed.order(1, 1, true);
        changed.ticks(1);
        Check.equal("no change: phase 11", changed.casts(), 0);
        changed.order(1, 1, false);
        changed.ticks(1);
        Check.equal("a change: phase 1", changed.casts(), 2);
    }

    /** "Over a link at most 64 casts go each way in a tick; more are LOST." */
    private static void sixtyFourCasts() {
        RingGuard net = Check.twoRings(1, 0, 4, 4);
        net.start();
        failAndHeal(net, 3, 63);
        Check.equal("63 over each of two links", net.casts(), 126);
        failAndHeal(net, 3, 1);
        Check.equal("64", net.casts(), 128);
        Check.equal("none is lost", net.lost(), 0);
        failAndHeal(net, 3, 1);
        Check.equal("not 65", net.casts(), 128);
        Check.equal("one on each link is lost", net.lost(), 2);
        net.ticks(1);
        // Bridges 1 and 2 hand 64 to one another over link 1: DONE of bridge 1 is one too many
        // there, not over link 0. In ring 1 HEALED of two and DONE.
        Check.equal("those that go on count", net.lost(), 3);
        Check.equal("64 + 64 + 1 + 4 + 2", net.casts(), 135);
        failAndHeal(net, 3, 1);
        Check.equal("in the next tick there is room again", net.lost(), 3);
    }

    private static void failAndHeal(RingGuard net, int link, int times) {
        for (int i = 0; i < times; i++) {
            net.fail(link);
            net.heal(link);
        }
    }

    /** ".. each way": Bridges 0 and 1 are the ends of a sub-ring and of link 0. */
    private static void sixtyFourEachWay() {
        RingGuard net = Check.bridges(4);
        Check.way(net, 0, 0, 1, 2, 0);
        Check.way(net, 1, 0, 3, 1);
        net.owner(0, 2, 1);
        net.owner(1, 3, 3);
        net.start();
        failAndHeal(net, 3, 64);
        Check.equal("64 of bridge 0 over links 0 and 2", net.casts(), 128);
        failAndHeal(net, 4, 64);
        Check.equal("64 of bridge 1 over links 0 and 1", net.casts(), 256);
        Check.equal("none is lost", net.lost(), 0);
        failAndHeal(net, 4, 1);
        Check.equal("one more each", net.lost(), 2);
    }

    /** "in the order in which they came on it" */
    private static void orderOfCasts() {
        RingGuard net = Check.twoRings(1, 0, 4, 4);
        net.start();
        failAndHeal(net, 3, 3);
        net.ticks(1);
        Check.equal("numbers 1, 2 and 3 are NEWS, one by one", net.told(2, 0, 0), 3);
        RingGuard lossy = Check.twoRings(1, 0, 4, 4);
        lossy.start();
        failAndHeal(lossy, 3, 3);
        lossy.lose(2, 2);
        lossy.ticks(1);
        Check.equal("the first two are lost", lossy.told(2, 0, 0), 1);
        lossy.ticks(1);
        Check.equal("lesser numbers are no NEWS", lossy.told(2, 0, 0), 2);
    }

    /** "link by link": the owner has HEALED over one link and FAIL over the other in one tick. */
    private static void orderOfLinks() {
        RingGuard healedFirst = Check.ring(5, 0, 0);
        healedFirst.order(1, 1, false);
        healedFirst.clear(1, 0);
        healedFirst.fail(3);
        healedFirst.ticks(2);
        Check.equal("FAIL ended its hold", healedFirst.holds(0, 0), 0);
        Check.equal("HEALED over link 0 came while it held", healedFirst.told(0, 0, 2), 0);
        RingGuard failFirst = Check.ring(5, 0, 0);
        failFirst.order(4, 3, false);
        failFirst.clear(4, 0);
        failFirst.fail(1);
        failFirst.ticks(2);
        Check.equal("FAIL over link 0 ended its hold", failFirst.holds(0, 0), 0);
        Check.equal("HEALED over link 4 came behind it", failFirst.told(0, 0, 2), 59);
    }

    /** "then, unless the bridge is its source, it goes on" */
    private static void onceRound() {
        RingGuard round = Check.ring(3, 0, 0);
        round.ticks(10);
        // DONE of tick 8: over one link in ticks 8, 9, 10 each; in tick 11 it is back.
        Check.equal("on the last link", round.casts(), 2);
        round.ticks(1);
        Check.equal("at its source it ends", round.casts(), 0);
        Check.equal("which is no loss", round.lost(), 0);
        RingGuard back = Check.ring(3, 0, 0);
        back.ticks(10);
        back.lose(0, 1);
        back.ticks(1);
        Check.equal("it arrives there, so it can be lost", back.lost(), 1);
    }

    /** "it goes on over the bridge's other port of the ring, if there is one and that link has not failed" */
    private static void chainEnds() {
        RingGuard net = Check.bridges(4);
        Check.way(net, 0, 0, 1, 2, 0);
        Check.way(net, 1, 0, 3, 1);
        net.owner(0, 2, 1);
        net.owner(1, 3, 3);
        net.start();
        net.ticks(20);
        // Of phase 18: DONE of bridge 2 goes round in three ticks, that of 3 ends at 0 and 1.
        Check.equal("two in ring 0", net.casts(), 2);
        net.fail(0);
        net.ticks(1);
        // DONE of phase 18 is at home. Bridges 0 and 1 told ring 1 of FAIL by FLUSH, which bridge 3
        // hands on; both send FAIL in ring 0.
        Check.equal("FLUSH handed on, FAIL of both", net.casts(), 2 + 2);
        net.ticks(1);
        // FLUSH ends at bridges 0 and 1. FAIL came to bridge 2, which opens and hands it on, and
        // was sent again; at bridges 0 and 1 it will not go on.
        Check.equal("at the ends nothing goes on", net.casts(), 2 + 2);
        net.ticks(1);
        // Bridges 0 and 1 had FAIL of one another, for which link 0 is no way; bridge 2 handed on
        // that of phase 2; that of phase 3 is sent, and DONE of bridge 3, in its phase 23.
        Check.equal("nor over a failed link", net.casts(), 2 + 2 + 2);
    }

    /** "FORCED, if it has that command; else FAIL ..; else MANUAL ..; else HEALED .." */
    private static void strongerCastFirst() {
        RingGuard forced = Check.ring(5, 0, 0);
        forced.order(3, 3, true);
        forced.order(1, 1, true);
        forced.fail(0);
        forced.ticks(3);
        Check.equal("FORCED of a bridge that is DOWN, too, ends FORCED", forced.holds(3, 3), 8);
        RingGuard failed = Check.ring(5, 0, 0);
        failed.order(1, 0, false);
        failed.order(3, 3, false);
        failed.fail(2);
        failed.lose(1, 1000);
        failed.ticks(3);
        Check.equal("bridge 3 is three links away", failed.holds(1, 0), 4);
        failed.ticks(1);
        Check.equal("FAIL of a greater bridge with MANUAL ends MANUAL", failed.holds(1, 0), 8);
        RingGuard manual = Check.ring(4, 0, 0);
        manual.order(2, 2, false);
        manual.order(2, 1, false);
        manual.ticks(2);
        Check.equal("the owner is two links away", manual.holds(0, 0), 16);
        manual.ticks(1);
        Check.equal("MANUAL of a bridge that is WAITING, too, opens it", manual.holds(0, 0), 0);
    }

    /** "else HEALED if a port is WAITING; else DONE if it is the owner and holds; else nothing" */
    private static void doneBehindHealed() {
        RingGuard net = Check.ring(30, 0, 0);
        net.order(0, 29, false);
        net.clear(0, 0);
        net.ticks(61);
        Check.equal("the owner holds under guard", net.holds(0, 0) + net.told(0, 0, 1), 16 + 3);
        net.ticks(3);
        Check.equal("guard is over, WAITING too", net.holds(0, 29) + net.told(0, 0, 1), 0);
        Check.equal("bridge 1 had no DONE till now", net.told(1, 0, 0), 0);
        net.ticks(1);
        Check.equal("now it has", net.told(1, 0, 0), 1);
        RingGuard silent = Check.ring(4, 0, 0);
        silent.fail(2);
        silent.ticks(22);
        silent.lose(1, 1000);
        silent.lose(3, 1000);
        silent.ticks(5);
        Check.equal("one FAIL over each", silent.lost(), 2);
        silent.ticks(100);
        Check.equal("bridges 0 and 1 send nothing", silent.lost(), 2 + 40);
    }

    /** "both are of one kind and the cast's source is less than the bridge" */
    private static void lesserSource() {
        for (int i = 0; i < 2; i++) {
            boolean forced = i == 1;
            int hold = forced ? 2 : 4;
            RingGuard net = Check.ring(3, 0, 0);
            net.order(1, 1, forced);
            net.order(2, 2, forced);
            net.ticks(2);
            Check.equal("the lesser bridge keeps it", net.holds(1, 1), hold);
            Check.equal("the next greater one does not", net.holds(2, 2), 8);
            Check.equal("it is under guard", net.told(2, 0, 1), 9);
            Check.isFalse("its command has ended", net.clear(2, 0));
            Check.isTrue("the other one's has not", net.clear(1, 0));
        }
        RingGuard both = Check.ring(3, 1, 1);
        both.order(0, 0, true);
        both.order(2, 2, true);
        both.ticks(2);
        Check.equal("bridge 0 is less than all", both.holds(0, 0), 2);
        Check.equal("over whichever link", both.holds(2, 2), 8);
    }

    /** "a command of its own ends if it is MANUAL and the cast is FAIL or FORCED": FORCED does not. */
    private static void forcedStays() {
        RingGuard net = Check.ring(4, 0, 0);
        net.order(1, 1, false);
        net.order(3, 3, true);
        net.ticks(2);
        Check.equal("nothing was heard yet", net.holds(1, 1), 4);
        net.ticks(1);
        Check.equal("FORCED of a greater bridge ends MANUAL", net.holds(1, 1), 8);
        net.ticks(1);
        Check.equal("MANUAL of a lesser one does not end FORCED", net.holds(3, 3), 2);
        RingGuard failed = Check.ring(4, 0, 0);
        failed.order(3, 3, true);
        failed.fail(0);
        failed.ticks(20);
        Check.equal("FAIL of lesser ones does not end FORCED", failed.holds(3, 3), 2);
        failed.clear(3, 0);
        failed.order(3, 3, false);
        // Guard is over in tick 32, FAIL comes in 34, guard is over in 45, FAIL comes in 49.
        failed.ticks(13);
        Check.equal("behind guard", failed.holds(3, 3), 4);
        failed.ticks(1);
        Check.equal("FAIL ends MANUAL", failed.holds(3, 3), 8);
        failed.ticks(14);
        Check.equal("and behind guard", failed.holds(3, 3), 8);
        failed.ticks(1);
        Check.equal("WAITING, too", failed.holds(3, 3), 0);
    }

    /** "a command of its own ends .. (it is WAITING then, under guard)": nothing else ends there. */
    private static void endedCommandLeavesDown() {
        RingGuard net = Check.ring(4, 0, 0);
        net.order(1, 1, false);
        net.fail(1);
        net.order(3, 3, true);
        net.ticks(2);
        Check.equal("FORCED has one link to go", net.holds(1, 1), 1 + 4);
        net.ticks(1);
        Check.equal("MANUAL is WAITING, DOWN is there", net.holds(1, 1), 1 + 8);
        Check.equal("under guard", net.told(1, 0, 1), 11);
        Check.isTrue("the link has failed still", net.heal(1));
    }

    /** Of FLUSH a bridge hears nothing but NEWS. */
    private static void flushIsNewsAlone() {
        RingGuard net = Check.twoRings(1, 0, 4, 4);
        net.start();
        net.fail(1);
        net.heal(1);
        net.ticks(20);
        Check.equal("WAITING, not under guard", net.holds(2, 1) + net.told(2, 0, 1), 8);
        int flushed = net.told(2, 0, 0);
        net.fail(3);
        net.ticks(3);
        Check.equal("FLUSH was heard", net.told(2, 0, 0), flushed + 1);
        Check.equal("WAITING stays", net.holds(2, 1), 8);
        Check.equal("the owner's clock runs on", net.told(1, 0, 2), 60 - 22);
    }

    /** All there can be: six rings, 48 bridges, 53 links. */
    private static RingGuard sixRings() {
        RingGuard net = Check.bridges(48);
        for (int ring = 0; ring < 6; ring++) {
            int from = Math.max(0, 8 * ring - 1);
            int first = ring == 0 ? 1 : 8 * ring;
            int link = net.link(from, first, ring);
            for (int bridge = first; bridge < 8 * ring + 7; bridge++) {
                net.link(bridge, bridge + 1, ring);
            }
            net.link(8 * ring + 7, from, ring);
            net.owner(ring, from, link);
        }
        Check.equal("six rings", net.start(), 0);
        net.ticks(200);
        Check.equal("NEWS of six owners", net.told(47, 0, 0), 6);
        return net;
    }

    private static int first(int link) {
        return link < 8 ? link : 8 * ((link - 8) / 9) + 7 + (link - 8) % 9;
    }

    /** "Names and numbers: of FAIL the link and how often it failed" */
    private static void namesOfLinks() {
        RingGuard net = sixRings();
        for (int link = 0; link < 53; link++) {
            int bridge = first(link);
            int far = bridge < 24 ? 47 : 0;
            int here = net.told(bridge, 0, 0);
            int there = net.told(far, 0, 0);
            Check.isTrue("fail(" + link + ")", net.fail(link));
            Check.equal("NEWS at its first bridge", net.told(bridge, 0, 0), here + 1);
            net.ticks(100);
            Check.equal("NEWS of link " + link + " far away", net.told(far, 0, 0), there + 1);
            net.heal(link);
            net.ticks(200);
        }
        Check.equal("all are joined, and always were in calm times", net.apart(), 0);
        Check.equal("no circle ever", net.circles(), 0);
    }

    /** "of FORCED and MANUAL 60 and the bridge, and how many commands it was given; of DONE 108 and the ring" */
    private static void namesOfCommands() {
        RingGuard net = sixRings();
        int[] failing = {8, 13, 52};
        for (int link : failing) {
            net.fail(link);
            net.ticks(100);
            net.heal(link);
            net.ticks(200);
        }
        for (int bridge = 0; bridge < 48; bridge++) {
            int link = bridge < 8 ? bridge : bridge + bridge / 8;
            int far = bridge < 24 ? 47 : 0;
            int here = net.told(bridge, 0, 0);
            int there = net.told(far, 0, 0);
            Check.isTrue("order(" + bridge + ")", net.order(bridge, link, bridge % 2 == 0));
            Check.equal("NEWS at the bridge", net.told(bridge, 0, 0), here + 1);
            net.ticks(100);
            Check.equal("NEWS of bridge " + bridge + " far away", net.told(far, 0, 0), there + 1);
            Check.isTrue("clear(" + bridge + ")", net.clear(bridge, bridge / 8));
            net.ticks(200);
        }
    }

    /** "if the number is greater than the greatest one of this name that the bridge was told" */
    private static void greaterNumber() {
        RingGuard net = Check.ring(4, 0, 0);
        net.ticks(10);
        Check.equal("number 1 of DONE, told again and again", net.told(2, 0, 0), 1);
        net.fail(0);
        net.ticks(10);
        Check.equal("number 1 of a failure, told by both its ends", net.told(2, 0, 0), 2);
        net.heal(0);
        net.fail(0);
        net.ticks(10);
        Check.equal("number 2", net.told(2, 0, 0), 3);
        net.order(1, 1, true);
        net.order(1, 1, false);
        net.order(1, 1, true);
        net.ticks(10);
        Check.equal("number 3 of a command, the first that is told", net.told(2, 0, 0), 4);
        net.fail(3);
        net.ticks(10);
        Check.equal("another name begins anew", net.told(2, 0, 0), 5);
    }

    /** "from each of its ports in each other ring (..; whose links have not failed)" */
    private static void flushOverLinksThatAreWell() {
        RingGuard net = Check.twoRings(1, 0, 4, 4);
        net.start();
        Check.equal("owners in one ring alone send none", net.casts(), 0);
        net.fail(3);
        Check.equal("bridge 0 over links 0 and 2; bridge 3 is in no other ring", net.casts(), 2);
        net.order(0, 2, false);
        Check.equal("over link 5, as link 3 has failed", net.casts(), 3);
        net.order(1, 1, false);
        Check.equal("bridge 1 is in no other ring", net.casts(), 3);
        RingGuard three = Check.bridges(7);
        Check.way(three, 0, 0, 1, 2, 0);
        Check.way(three, 2, 0, 3, 4, 0);
        Check.way(three, 5, 0, 5, 6, 0);
        three.owner(0, 1, 1);
        three.owner(2, 3, 4);
        three.owner(5, 5, 7);
        three.start();
        three.order(0, 3, true);
        Check.equal("two other rings", three.casts(), 4);
    }

    /** "One on a link that has failed is gone. If some are still to be lost .. it is LOST." */
    private static void failedLinkLosesNothing() {
        RingGuard net = Check.ring(3, 0, 0);
        net.ticks(1);
        net.lose(0, 1);
        net.lose(2, 1);
        net.fail(0);
        net.ticks(1);
        Check.equal("lost over link 2 alone", net.lost(), 1);
        Check.equal("over link 0 one is still to be lost", net.lose(0, 0), 1);
        Check.equal("over link 2 none", net.lose(2, 0), 0);
        Check.equal("bridge 1 heard nothing but its own failure", net.told(1, 0, 0), 1);
        Check.equal("bridge 2 heard nothing", net.told(2, 0, 0), 0);
    }

    /** "put together: 1 DOWN, 2 FORCED, 4 MANUAL, 8 WAITING, 16 OWNER" */
    private static void holdsTogether() {
        RingGuard net = Check.ring(30, 0, 0);
        Check.equal("none", net.holds(1, 1), 0);
        Check.equal("OWNER", net.holds(0, 0), 16);
        net.order(0, 0, false);
        Check.equal("MANUAL instead", net.holds(0, 0), 4);
        net.clear(0, 0);
        net.ticks(61);
        Check.equal("OWNER, and WAITING under guard", net.holds(0, 0), 8 + 16);
        net.order(1, 0, true);
        net.order(1, 0, false);
        net.fail(0);
        Check.equal("DOWN and MANUAL", net.holds(1, 0), 1 + 4);
        net.order(1, 0, true);
        Check.equal("DOWN, FORCED, WAITING", net.holds(1, 0), 1 + 2 + 8);
        net.order(1, 0, false);
        Check.equal("DOWN, MANUAL, WAITING", net.holds(1, 0), 1 + 4 + 8);
        Check.equal("DOWN at the owner", net.holds(0, 0), 1);
    }

    /** "what = 0 how often it flushed; for a ring: 1 its guard, 2 the owner's clock (0 when it does not run)" */
    private static void toldOfRings() {
        RingGuard net = Check.twoRings(0, 0, 3, 3);
        for (int what = 0; what <= 2; what++) {
            Check.equal("nothing before start()", net.told(0, 0, what), 0);
        }
        net.start();
        net.order(0, 0, true);
        net.clear(0, 0);
        net.ticks(1);
        for (int ring = 0; ring <= 5; ring++) {
            Check.equal("flushes are of all rings", net.told(0, ring, 0), 2);
            Check.equal("guard is of a ring", net.told(0, ring, 1), ring == 0 ? 13 : 0);
            Check.equal("the clock, too", net.told(0, ring, 2), ring == 0 ? 60 : 0);
        }
        Check.equal("another bridge's guard", net.told(1, 0, 1), 0);
        Check.refusesArgument("what = 3", () -> net.told(0, 0, 3));
        Check.refusesArgument("what = -1", () -> net.told(0, 0, -1));
    }

    /**
     * Nothing that can be called makes a circle, or keeps bridges apart in calm times: so these
     * two are 0 behind everything, also where each of their conditions fails alone.
     */
    private static void calmAndCircles() {
        RingGuard calm = Check.ring(4, 0, 0);
        calm.ticks(200);
        calm.fail(2);
        calm.ticks(1);
        Check.isFalse("two pieces", calm.joined(2, 3));
        Check.equal("a link had failed just now", calm.apart(), 0);
        RingGuard first = Check.ring(4, 3, 3);
        first.order(0, 0, true);
        first.fail(2);
        first.ticks(200);
        first.ticks(200);
        Check.isFalse("a command of the first bridge, and a failure", first.joined(0, 2));
        Check.equal("there is a command", first.apart(), 0);
        RingGuard two = Check.ring(4, 3, 3);
        two.fail(0);
        two.fail(2);
        two.ticks(200);
        two.ticks(200);
        Check.isFalse("link 0 and another one", two.joined(0, 2));
        Check.equal("have failed", two.apart(), 0);
        RingGuard net = Check.ring(3, 0, 0);
        net.fail(1);
        net.fail(2);
        net.ticks(200);
        Check.isFalse("two failures: bridge 2 is alone", net.joined(0, 2));
        Check.equal("is not counted", net.apart(), 0);
        net.heal(2);
        net.ticks(91);
        net.ticks(1);
        Check.isTrue("joined behind 4 * 3 + 80 ticks", net.joined(0, 2));
        net.order(2, 2, true);
        net.ticks(200);
        Check.isFalse("a command: bridge 2 is alone", net.joined(0, 2));
        Check.equal("is not counted either", net.apart(), 0);
        net.clear(2, 0);
        net.ticks(92);
        Check.isTrue("joined behind it", net.joined(0, 2));
        net.heal(1);
        net.ticks(200);
        Check.isTrue("joined", net.joined(0, 2) && net.joined(0, 1));
        Check.equal("never apart", net.apart(), 0);
        Check.equal("never a circle", net.circles(), 0);
        Check.equal("the owner holds again", net.holds(0, 0), 16);
    }
}
