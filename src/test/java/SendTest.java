/** What send() sends, and what it leaves of the sender. */
public final class SendTest {
    private static final Class<IllegalStateException> STATE = IllegalStateException.class;

    public static void main(String[] args) {
        firstSegment();
        windows();
        edgeAndProbe();
        marks();
        sentAgainAcrossHighest();
        recovery();
        newBytesInRecovery();
        recoveryBelowMarks();
        fullList();
        Check.close(SendTest.class);
    }

    private static void firstSegment() {
        SluiceStream x = new SluiceStream();
        Check.due("promise 5: nothing written", x.send(), 0);
        Check.due("promise 37: nothing sent", x.sent(), 0);
        Check.due("promise 33: nothing sent", x.timerEnd(), SluiceStream.NONE);
        x.tick(5);
        x.write(0, 3);
        Check.due("promise 5: up to W", x.send(), 3);
        Check.due("promise 13: start", x.startOf(0), 0);
        Check.due("promise 14: end", x.endOf(0), 3);
        Check.due("promise 12: one", x.segments(), 1);
        Check.due("promise 22: its end", x.next(), 3);
        Check.due("promise 23: its end", x.highest(), 3);
        Check.due("promise 21: not acknowledged", x.acknowledged(), 0);
        Check.due("promise 26: its bytes", x.inFlight(), 3);
        Check.due("promise 36: timed", x.timedEnd(), 3);
        Check.due("promise 33: a timeout later", x.timerEnd(), 13);
        Check.due("promise 37: one", x.sent(), 1);
        Check.due("promise 38: none again", x.sentAgain(), 0);
        Check.due("promise 5: N is W", x.send(), 0);
        x.tick(1);
        x.write(0, 9);
        Check.due("promise 5: up to 4", x.send(), 4);
        Check.due("promise 36: still the first", x.timedEnd(), 3);
        Check.due("promise 33: still the first", x.timerEnd(), 13);
    }

    private static void windows() {
        SluiceStream x = new SluiceStream();
        x.write(0, 100);
        Check.due("promise 5: as much as C", Drive.sendAll(x), 8);
        SluiceStream y = new SluiceStream();
        y.setLimit(6);
        y.write(0, 6);
        Check.due("promise 5: below L", y.send(), 4);
        Check.due("promise 5: as much as L", y.send(), 2);
        SluiceStream z = new SluiceStream();
        z.setLimit(6);
        z.write(0, 7);
        z.send();
        Check.due("promise 5: a segment is not cut to fit", z.send(), 0);
        SluiceStream w = new SluiceStream();
        w.setLimit(4);
        w.write(0, 100);
        Check.due("promise 4: stop and wait", Drive.sendAll(w), 4);
        w.setLimit(8);
        Check.due("promise 4: a greater limit", w.send(), 4);
    }

    private static void edgeAndProbe() {
        SluiceStream x = new SluiceStream();
        x.write(0, 30);
        for (int i = 0; i < 8; i++) {
            Drive.pass(x);
        }
        x.write(0, 10);
        Check.due("promise 5: up to the edge", x.send(), 2);
        Check.due("promise 5: no probe while bytes are in flight", x.send(), 0);
        x.deliver(0);
        x.deliverAck(0);
        Check.due("promise 5: a probe", x.send(), 1);
        Check.due("promise 13: of the probe", x.startOf(0), 32);
        Check.due("promise 14: of the probe", x.endOf(0), 33);
        Check.due("promise 22: the probe's end", x.next(), 33);
        Check.due("promise 23: the probe's end", x.highest(), 33);
        Check.due("promise 36: the probe is timed", x.timedEnd(), 33);
        Check.due("promise 37: the probe counts", x.sent(), 10);
        Check.due("promise 5: no second probe", x.send(), 0);
        Check.due("promise 7: no room for the probe", x.deliver(0), 0);
        x.deliverAck(0);
        Check.due("promise 30: the probe's acknowledgement", x.duplicates(), 1);
        Check.due("promise 25: not moved", x.edge(), 32);
        SluiceStream y = new SluiceStream();
        y.write(0, 32);
        for (int i = 0; i < 8; i++) {
            Drive.pass(y);
        }
        Check.due("promise 5: no probe of what is not written", y.send(), 0);
    }

    private static void marks() {
        SluiceStream x = new SluiceStream();
        x.write(0, 2);
        x.send();
        x.write(0, 4);
        x.send();
        x.deliver(1);
        x.tick(8);
        x.deliverAck(0);
        Check.due("promise 27: marked", x.isMarked(2), true);
        x.write(0, 10);
        Check.due("promise 5: up to a mark", x.send(), 2);
        Check.due("promise 22: up to a mark", x.next(), 2);
        Check.due("promise 5: does not fit", x.send(), 0);
        Check.due("promise 22: goes on past marks", x.next(), 6);
        Check.due("promise 26: marks are not in flight", x.inFlight(), 2);
        x.setLimit(256);
        x.deliver(0);
        x.deliverAck(0);
        Check.due("promise 21: with the marked ones", x.acknowledged(), 6);
        Check.due("promise 5: after the marks", x.send(), 4);
        Check.due("promise 13: after the marks", x.startOf(1), 6);

        SluiceStream y = new SluiceStream();
        y.write(0, 8);
        y.send();
        y.send();
        y.deliver(1);
        y.tick(8);
        y.deliverAck(0);
        y.send();
        Check.due("promise 5: only marks are left", y.send(), 0);
        Check.due("promise 22: N is W past marks", y.next(), 8);
    }

    private static void sentAgainAcrossHighest() {
        SluiceStream x = new SluiceStream();
        x.write(0, 6);
        x.send();
        x.send();
        x.tick(8);
        x.write(0, 10);
        Check.due("promise 5: again", x.send(), 4);
        Check.due("promise 38: again", x.sentAgain(), 1);
        Check.due("promise 23: stays", x.highest(), 6);
        Check.due("promise 36: again is not timed", x.timedEnd(), SluiceStream.NONE);
        x.deliver(0);
        x.deliverAck(0);
        Check.due("promise 5: across H", x.send(), 4);
        Check.due("promise 38: across H counts", x.sentAgain(), 2);
        Check.due("promise 23: across H", x.highest(), 8);
        Check.due("promise 36: across H is not timed", x.timedEnd(), SluiceStream.NONE);
        x.send();
        Check.due("promise 36: new bytes are timed", x.timedEnd(), 12);
        Check.due("promise 38: new bytes", x.sentAgain(), 2);
        Check.due("promise 37: all", x.sent(), 5);
    }

    private static void recovery() {
        SluiceStream x = Drive.recovering();
        Check.due("promise 5: from A", x.send(), 4);
        Check.due("promise 13: from A", x.startOf(1), 8);
        Check.due("promise 22: a repair leaves N", x.next(), 32);
        Check.due("promise 38: a repair", x.sentAgain(), 1);
        Check.due("promise 5: the next hole", x.send(), 4);
        Check.due("promise 13: the next hole", x.startOf(2), 16);
        Check.due("promise 14: up to a mark", x.endOf(2), 20);
        Check.due("promise 5: no hole above the greatest mark", x.send(), 0);
        Check.due("promise 38: two repairs", x.sentAgain(), 2);
        Check.due("promise 36: repairs are not timed", x.timedEnd(), SluiceStream.NONE);
    }

    private static void newBytesInRecovery() {
        SluiceStream x = Drive.recovering();
        x.send();
        x.send();
        Drive.deliverFrom(x, 8);
        Check.due("promise 10: a part", x.deliverAck(0), 8);
        Check.due("promise 31: a part does not end it", x.recoveryEnd(), 32);
        Check.due("promise 28: a part does not let C grow", x.congestionWindow(), 8);
        Check.due("promise 5: X is behind what was repaired", x.send(), 0);
        Drive.read(x, 4);
        Drive.deliverFrom(x, 16);
        x.deliverAck(0);
        Check.due("promise 25: moved", x.edge(), 36);
        Check.due("promise 5: A itself is repaired", x.send(), 4);
        Check.due("promise 13: A itself", x.startOf(1), 28);
        Check.due("promise 14: up to N", x.endOf(1), 32);
        Check.due("promise 5: new bytes", x.send(), 4);
        Check.due("promise 13: new bytes", x.startOf(2), 32);
        Check.due("promise 36: new bytes are timed", x.timedEnd(), 36);
        x.deliver(0);
        x.deliverAck(0);
        Check.due("promise 31: ended", x.recoveryEnd(), SluiceStream.NONE);
        Check.due("promise 28: C is T", x.congestionWindow(), 8);
    }

    private static void recoveryBelowMarks() {
        SluiceStream x = Drive.singles(8);
        x.tick(8);
        x.send();
        for (int start : new int[] {5, 6, 7}) {
            Drive.deliverFrom(x, start);
            x.deliverAck(0);
        }
        Check.due("promise 31: marks above N", x.recoveryEnd(), 4);
        Check.due("promise 5: from A to N", x.send(), 4);
        Check.due("promise 5: no hole below N, so new bytes", x.send(), 1);
        Check.due("promise 13: no hole below N", x.startOf(x.segments() - 1), 4);
        Check.due("promise 22: a byte before the marks", x.next(), 5);
        Check.due("promise 5: what is new is below a mark, too", x.send(), 1);
        Check.due("promise 13: the same byte", x.startOf(x.segments() - 1), 4);
        Check.due("promise 5: only marks are left", x.send(), 0);
        Check.due("promise 22: past the marks", x.next(), 8);
    }

    private static void fullList() {
        SluiceStream x = new SluiceStream();
        x.write(0, 4);
        x.send();
        for (int i = 0; i < 38; i++) {
            x.duplicate(0);
        }
        x.write(0, 8);
        Check.due("promise 5: the 40th", x.send(), 4);
        Check.due("promise 12: 40", x.segments(), 40);
        Check.refused("promise 5: the 41st", x, STATE, x::send);
        SluiceStream y = new SluiceStream();
        y.write(0, 4);
        y.send();
        for (int i = 0; i < 39; i++) {
            y.duplicate(0);
        }
        Check.refused("promise 5: a full list and nothing to send", y, STATE, y::send);
    }
}
