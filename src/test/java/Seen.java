import java.util.function.IntSupplier;

/** All that can be seen of an object by calls that change nothing, as one text. */
final class Seen {
    private static final int MOST_BRIDGES = 48;
    private static final int MOST_LINKS = 60;
    private static final int REFUSED = Integer.MIN_VALUE;

    private Seen() {
    }

    static String of(RingGuard net) {
        StringBuilder text = new StringBuilder();
        int bridges = countBridges(net);
        text.append("bridges ").append(bridges);
        text.append(" casts ").append(net.casts()).append(" lost ").append(net.lost());
        text.append(" visits ").append(net.visits());
        text.append(" circles ").append(net.circles()).append(" apart ").append(net.apart());
        for (int bridge = 0; bridge < bridges; bridge++) {
            text.append("\nbridge ").append(bridge);
            addTold(text, net, bridge);
            addHolds(text, net, bridge);
            addLearned(text, net, bridge);
            text.append(" joined ").append(net.joined(0, bridge)).append(net.joined(bridge, bridges - 1));
        }
        return text.toString();
    }

    static int countBridges(RingGuard net) {
        int count = 0;
        while (count <= MOST_BRIDGES && isBridge(net, count)) {
            count++;
        }
        return count;
    }

    private static boolean isBridge(RingGuard net, int bridge) {
        return orRefused(() -> net.told(bridge, 0, 0)) != REFUSED;
    }

    private static void addTold(StringBuilder text, RingGuard net, int bridge) {
        text.append(" flushed ").append(net.told(bridge, 0, 0));
        for (int ring = 0; ring < 6; ring++) {
            text.append(" guard ").append(net.told(bridge, ring, 1));
            text.append(" clock ").append(net.told(bridge, ring, 2));
        }
    }

    private static void addHolds(StringBuilder text, RingGuard net, int bridge) {
        for (int i = 0; i <= MOST_LINKS; i++) {
            int link = i;
            int holds = orRefused(() -> net.holds(bridge, link));
            if (holds != REFUSED) {
                text.append(" link ").append(link).append(" holds ").append(holds);
            }
        }
    }

    private static void addLearned(StringBuilder text, RingGuard net, int bridge) {
        for (int tag = 0; tag < 4; tag++) {
            for (int host = 0; host < 64; host++) {
                int link = net.learned(bridge, tag, host);
                if (link != RingGuard.NONE) {
                    text.append(" host ").append(host).append(" tag ").append(tag).append(" over ").append(link);
                }
            }
        }
    }

    private static int orRefused(IntSupplier call) {
        try {
            return call.getAsInt();
        } catch (IllegalArgumentException e) {
            return REFUSED;
        }
    }
}
