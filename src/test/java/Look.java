/** All that the face tells of an object's group, line by line, so that two objects can be held against each other. */
final class Look {
    private Look() {
    }

    static String at(RepairTalk talk) {
        StringBuilder all = new StringBuilder();
        int seed = talk.seed(0);
        talk.seed(seed);
        all.append("seed ").append(seed).append("\ncounts");
        for (int what = 0; what < 17; what++) {
            all.append(' ').append(talk.count(what));
        }
        for (int node = 0; node < talk.count(0); node++) {
            node(all, talk, node);
        }
        all.append("\nall: ").append(talk.center()).append(' ').append(talk.parts());
        for (int scope = 0; scope < 6; scope++) {
            all.append(' ').append(talk.spread(scope));
        }
        for (int link = 0; link < talk.count(1); link++) {
            all.append("\nlink ").append(link).append(':');
            for (int what = 0; what < 6; what++) {
                all.append(' ').append(talk.link(link, what));
            }
        }
        for (int k = 0; k < talk.count(12); k++) {
            all.append("\nmessage ").append(k).append(':');
            for (int what = 0; what < 6; what++) {
                all.append(' ').append(talk.flight(k, what));
            }
        }
        for (int ago = 0; ago < talk.count(15); ago++) {
            all.append("\nrow ").append(ago).append(':');
            for (int what = 0; what < 4; what++) {
                all.append(' ').append(talk.log(ago, what));
            }
        }
        return all.append('\n').toString();
    }

    private static void node(StringBuilder all, RepairTalk talk, int node) {
        all.append("\nnode ").append(node).append(':');
        for (int what = 0; what < 11; what++) {
            all.append(' ').append(talk.node(node, what));
        }
        for (int other = 0; other < talk.count(0); other++) {
            all.append("\n  to ").append(other).append(": ").append(node == other ? 0 : talk.est(node, other));
            all.append(' ').append(talk.way(node, other, false)).append(' ').append(talk.above(node, other));
        }
        all.append("\n  blind: ").append(talk.blind(node));
        for (int scope = 0; scope < 6; scope++) {
            all.append(' ').append(talk.reach(node, scope)).append(' ').append(talk.crossed(node, scope));
        }
        for (int packet = 0; packet < 12; packet++) {
            all.append("\n  packet ").append(packet).append(':');
            for (int what = 0; what < 8; what++) {
                all.append(' ').append(talk.timer(node, packet, what));
            }
            all.append(' ').append(talk.when(node, packet)).append(' ').append(talk.giver(node, packet, 0));
            all.append(' ').append(talk.near(node, packet)).append(' ').append(talk.far(node, packet));
            all.append(' ').append(talk.guard(node, packet)).append(' ').append(talk.window(node, packet, true));
            for (int k = 0; k < 6; k++) {
                all.append(' ').append(talk.gap(node, packet, k));
            }
        }
    }
}
