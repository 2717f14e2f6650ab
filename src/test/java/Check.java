/** What the tests share: counting wrong answers, and nets that are laid out already. */
final class Check {
    private static int wrong = 0;
    private static int looked = 0;

    private Check() {
    }

    static void equal(String what, Object got, Object due) {
        looked++;
        if (!got.equals(due)) {
            wrong++;
            System.out.println(what + " answered " + got + ", due is " + due);
        }
    }

    static void isTrue(String what, boolean got) {
        equal(what, got, true);
    }

    static void isFalse(String what, boolean got) {
        equal(what, got, false);
    }

    static void refusesArgument(String what, Runnable call) {
        equal(what, thrownBy(call), "IllegalArgumentException");
    }

    static void refusesState(String what, Runnable call) {
        equal(what, thrownBy(call), "IllegalStateException");
    }

    private static String thrownBy(Runnable call) {
        try {
            call.run();
        } catch (RuntimeException e) {
            return e.getClass().getSimpleName();
        }
        return "nothing";
    }

    static void end() {
        System.out.println(looked + " answers, " + wrong + " wrong");
        if (wrong != 0) {
            System.exit(1);
        }
    }

    static RingGuard bridges(int count) {
        RingGuard net = new RingGuard();
        for (int i = 0; i < count; i++) {
            net.bridge();
        }
        return net;
    }

    /** A link behind each bridge of the way, to the next one. */
    static void way(RingGuard net, int ring, int... bridges) {
        for (int i = 0; i + 1 < bridges.length; i++) {
            net.link(bridges[i], bridges[i + 1], ring);
        }
    }

    /** One closed ring 0, 1, .., link i from bridge i on; its owner at its port of a link. */
    static RingGuard ring(int size, int owner, int link) {
        RingGuard net = bridges(size);
        for (int i = 0; i < size; i++) {
            net.link(i, (i + 1) % size, 0);
        }
        net.owner(0, owner, link);
        net.start();
        return net;
    }

    /** Rings 0 (bridges 0 1 2, links 0 1 2) and 1 (bridges 0 3 4, links 3 4 5), not started. */
    static RingGuard twoRings(int ownerOf0, int linkOf0, int ownerOf1, int linkOf1) {
        RingGuard net = bridges(5);
        way(net, 0, 0, 1, 2, 0);
        way(net, 1, 0, 3, 4, 0);
        net.owner(0, ownerOf0, linkOf0);
        net.owner(1, ownerOf1, linkOf1);
        return net;
    }
}
