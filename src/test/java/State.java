import java.util.StringJoiner;

/** All that can be seen of a stream, as one text. */
final class State {
    private State() {
    }

    static String of(SluiceStream x) {
        return sender(x) + "; " + timer(x) + "; " + receiver(x) + "; " + segments(x) + "; " + acks(x);
    }

    private static String sender(SluiceStream x) {
        StringJoiner marks = new StringJoiner(",", "{", "}");
        for (int p = 0; p < x.written(); p++) {
            if (x.isMarked(p)) {
                marks.add("" + p);
            }
        }
        return "A " + x.acknowledged() + " N " + x.next() + " H " + x.highest() + " W " + x.written()
            + " edge " + x.edge() + " F " + x.inFlight() + " marks " + marks
            + " C " + x.congestionWindow() + " T " + x.threshold()
            + " duplicates " + x.duplicates() + " R " + x.recoveryEnd()
            + " sent " + x.sent() + " again " + x.sentAgain();
    }

    private static String timer(SluiceStream x) {
        return "time " + x.time() + " timeout " + x.timeout() + " ends " + x.timerEnd()
            + " S " + x.roundTrip() + " V " + x.variation() + " timed " + x.timedEnd();
    }

    private static String receiver(SluiceStream x) {
        StringJoiner blocks = new StringJoiner(",", "{", "}");
        for (int b = 0; b < x.blocks(); b++) {
            blocks.add(x.blockStart(b) + "-" + x.blockEnd(b));
        }
        return "B " + x.inOrder() + " read " + x.readPosition() + " window " + x.window() + " blocks " + blocks;
    }

    private static String segments(SluiceStream x) {
        StringJoiner rows = new StringJoiner(",", "segments {", "}");
        for (int i = 0; i < x.segments(); i++) {
            rows.add(x.startOf(i) + "-" + x.endOf(i));
        }
        return rows.toString();
    }

    private static String acks(SluiceStream x) {
        StringJoiner rows = new StringJoiner(",", "acks {", "}");
        for (int i = 0; i < x.acks(); i++) {
            StringJoiner blocks = new StringJoiner(" ", "[", "]");
            for (int b = 0; b < x.ackBlocks(i); b++) {
                blocks.add("" + x.ackBlock(i, b));
            }
            rows.add(x.ackNumber(i) + "+" + x.ackWindow(i) + blocks);
        }
        return rows.toString();
    }
}
