/** What an acknowledgement does to the sender. */
public final class AckTest {
    private static final Class<IndexOutOfBoundsException> INDEX = IndexOutOfBoundsException.class;

    public static void main(String[] args) {
        grows();
        old();
        congestion();
        marks();
        marksOfBlocks();
        marksThatAreNotToldAgain();
        duplicates();
        edgeIsNoDuplicate();
        recoveryBegins();
        recoveryEnds();
        duplicatesInRecovery();
        recoveryAfterTimeout();
        ahead();
        Check.close(AckTest.class);
    }

    private static void grows() {
        SluiceStream x = new SluiceStream();
        x.write(0, 8);
        x.send();
        x.send();
        x.deliver(0);
        x.read();
        x.deliver(0);
        Check.due("promise 10: both at once", x.deliverAck(1), 8);
        Check.due("promise 21: both", x.acknowledged(), 8);
        Check.due("promise 25: one was read", x.edge(), 33);
        Check.due("promise 15: it leaves", x.acks(), 1);
        Check.due("promise 16: the other stays", x.ackNumber(0), 4);
    }

    private static void old() {
        SluiceStream x = new SluiceStream();
        x.write(0, 100);
        x.send();
        x.send();
        x.deliver(1);
        x.deliver(0);
        x.deliverAck(1);
        x.send();
        String before = State.of(x).replace("acks {0+32[4]}", "acks {}");
        Check.due("promise 10: below A", x.deliverAck(0), 0);
        Check.due("promise 10: below A changes nothing", State.of(x), before);
    }

    private static void congestion() {
        SluiceStream x = new SluiceStream();
        x.write(0, 100);
        Drive.pass(x);
        Check.due("promise 28: below T", x.congestionWindow(), 12);
        x.send();
        x.tick(2);
        x.lose(0);
        int[] due = {8, 10, 11, 12, 13, 14, 15, 16, 17, 18};
        for (int c : due) {
            Drive.pass(x);
            Drive.read(x, 4);
            Check.due("promise 28: to " + c, x.congestionWindow(), c);
        }
        Check.due("promise 29: stays", x.threshold(), 8);
        SluiceStream y = new SluiceStream();
        y.write(0, 8);
        y.send();
        y.send();
        y.deliver(0);
        y.deliver(0);
        y.deliverAck(1);
        Check.due("promise 28: once for two segments", y.congestionWindow(), 12);
    }

    private static String marked(SluiceStream x) {
        StringBuilder marked = new StringBuilder();
        for (int p = 0; p < x.written(); p++) {
            if (x.isMarked(p)) {
                marked.append(p).append(' ');
            }
        }
        return marked.toString();
    }

    private static void marks() {
        SluiceStream x = Drive.lossy();
        Check.due("promise 27: the blocks", marked(x), "12 13 14 15 20 21 22 23 ");
        Check.due("promise 26: without the marked ones", x.inFlight(), 16);
        Check.due("promise 27: the last byte", x.isMarked(99), false);
        Check.refused("promise 27: -1", x, INDEX, () -> x.isMarked(-1));
        Check.refused("promise 27: W", x, INDEX, () -> x.isMarked(100));
        Check.refused("promise 27: above W", x, INDEX, () -> x.isMarked(Integer.MAX_VALUE));
        x.deliverAck(0);
        Check.due("promise 27: a longer block", x.isMarked(27), true);
        x.send();
        Drive.deliverFrom(x, 8);
        x.deliverAck(0);
        Check.due("promise 21: past a block", x.acknowledged(), 16);
        Check.due("promise 27: below A", x.isMarked(12), false);
        Check.due("promise 27: above A", x.isMarked(20), true);
        SluiceStream none = new SluiceStream();
        Check.refused("promise 27: nothing written", none, INDEX, () -> none.isMarked(0));
    }

    private static void marksOfBlocks() {
        SluiceStream x = Drive.singles(8);
        for (int start : new int[] {4, 7, 2, 5}) {
            Drive.deliverFrom(x, start);
        }
        Check.due("promise 10: three blocks at once", x.deliverAck(3), 0);
        Check.due("promise 27: three blocks at once", marked(x), "2 4 5 7 ");
        SluiceStream y = Drive.singles(8);
        for (int start : new int[] {2, 4, 6}) {
            Drive.deliverFrom(y, start);
        }
        y.loseAck(2);
        y.loseAck(1);
        y.deliverAck(0);
        Check.due("promise 27: as many as are told", marked(y), "2 ");
        for (int start : new int[] {1, 3, 5}) {
            Drive.deliverFrom(y, start);
            y.deliverAck(0);
        }
        Check.due("promise 27: grown together", marked(y), "1 2 3 4 5 6 ");
    }

    private static void marksThatAreNotToldAgain() {
        SluiceStream x = new SluiceStream();
        x.write(0, 1);
        Drive.pass(x);
        for (int p = 1; p <= 12; p++) {
            x.write(p, 1);
            x.send();
        }
        for (int start : new int[] {3, 5, 7, 9}) {
            Drive.deliverFrom(x, start);
            x.deliverAck(0);
        }
        Drive.deliverFrom(x, 1);
        Check.due("promise 18: the oldest is not told", x.ackBlocks(0), 3);
        Check.due("promise 10: one", x.deliverAck(0), 1);
        Check.due("promise 27: what was told stays marked", marked(x), "3 5 7 9 ");
    }

    private static void duplicates() {
        SluiceStream x = new SluiceStream();
        x.write(0, 100);
        x.send();
        x.duplicate(0);
        x.deliver(0);
        x.deliverAck(0);
        x.deliver(0);
        x.deliverAck(0);
        Check.due("promise 30: A is N", x.duplicates(), 0);
        x.send();
        x.duplicate(0);
        x.duplicate(0);
        x.deliver(0);
        x.send();
        x.deliver(0);
        x.deliver(0);
        x.deliverAck(0);
        Check.due("promise 30: a number above A", x.duplicates(), 0);
        x.deliverAck(0);
        Check.due("promise 30: one", x.duplicates(), 1);
        x.deliverAck(0);
        Check.due("promise 30: two", x.duplicates(), 2);
        Check.due("promise 31: not yet", x.recoveryEnd(), SluiceStream.NONE);
        x.deliver(0);
        x.deliverAck(0);
        Check.due("promise 30: a number above A again", x.duplicates(), 0);
    }

    private static void edgeIsNoDuplicate() {
        SluiceStream x = new SluiceStream();
        x.write(0, 100);
        Drive.pass(x);
        x.send();
        x.duplicate(0);
        x.deliver(0);
        x.deliverAck(0);
        x.send();
        x.read();
        x.deliver(0);
        x.deliverAck(0);
        Check.due("promise 25: told by a doubled one", x.edge(), 33);
        Check.due("promise 30: the edge moved", x.duplicates(), 0);
    }

    private static void recoveryBegins() {
        SluiceStream x = Drive.lossy();
        Check.due("promise 30: two", x.duplicates(), 2);
        Check.due("promise 31: none yet", x.recoveryEnd(), SluiceStream.NONE);
        Check.due("promise 36: timed", x.timedEnd(), 12);
        x.deliverAck(0);
        Check.due("promise 30: three", x.duplicates(), 3);
        Check.due("promise 31: N", x.recoveryEnd(), 32);
        Check.due("promise 29: at least 8", x.threshold(), 8);
        Check.due("promise 28: C is T", x.congestionWindow(), 8);
        Check.due("promise 36: none", x.timedEnd(), SluiceStream.NONE);
        Check.due("promise 22: stays", x.next(), 32);
        SluiceStream y = wideLoss();
        Check.due("promise 31: of a wide one", y.recoveryEnd(), 55);
        Check.due("promise 29: half of what has no mark then", y.threshold(), 9);
        Check.due("promise 28: half of what has no mark then", y.congestionWindow(), 9);
    }

    /** In recovery at 28: 27 bytes were in flight, and the third acknowledgement marks the last 4 of 8. */
    private static SluiceStream wideLoss() {
        SluiceStream x = new SluiceStream();
        x.write(0, 55);
        for (int i = 0; i < 6; i++) {
            Drive.pass(x);
        }
        Drive.read(x, 24);
        Drive.pass(x);
        Check.due("promise 5: all", Drive.sendAll(x), 27);
        x.duplicate(1);
        for (int start : new int[] {32, 32, 36}) {
            Drive.deliverFrom(x, start);
            x.deliverAck(0);
        }
        return x;
    }

    private static void recoveryEnds() {
        SluiceStream x = Drive.recovering();
        x.send();
        x.send();
        x.deliver(0);
        x.deliver(0);
        x.deliver(0);
        x.loseAck(0);
        x.loseAck(0);
        Check.due("promise 10: all", x.deliverAck(0), 24);
        Check.due("promise 31: A is R", x.recoveryEnd(), SluiceStream.NONE);
        Check.due("promise 28: C is T and does not grow", x.congestionWindow(), 8);
        Check.due("promise 33: A is N", x.timerEnd(), SluiceStream.NONE);
        Check.due("promise 30: none", x.duplicates(), 0);
        Drive.read(x, 4);
        x.deliverAck(0);
        Drive.pass(x);
        Check.due("promise 28: grows out of recovery", x.congestionWindow(), 10);
    }

    private static void duplicatesInRecovery() {
        SluiceStream x = Drive.recovering();
        x.deliver(0);
        x.deliverAck(0);
        Check.due("promise 30: four", x.duplicates(), 4);
        Check.due("promise 31: the same recovery", x.recoveryEnd(), 32);
        x.send();
        x.send();
        x.duplicate(0);
        x.duplicate(0);
        x.duplicate(0);
        x.deliver(0);
        x.deliverAck(0);
        Check.due("promise 30: a part", x.duplicates(), 0);
        int before = x.threshold();
        for (int i = 1; i <= 3; i++) {
            x.deliver(1);
            x.deliverAck(0);
            Check.due("promise 30: after a part", x.duplicates(), i);
        }
        Check.due("promise 31: no second recovery", x.recoveryEnd(), 32);
        Check.due("promise 29: no second recovery", x.threshold(), before);
        Check.due("promise 5: X stays", x.send(), 0);
    }

    private static void recoveryAfterTimeout() {
        SluiceStream x = Drive.recovering();
        x.send();
        x.send();
        x.tick(100);
        x.send();
        x.duplicate(0);
        x.duplicate(0);
        for (int i = 0; i < 3; i++) {
            Drive.deliverFrom(x, 28);
            x.deliverAck(0);
        }
        Check.due("promise 31: a second one", x.recoveryEnd(), 12);
        Check.due("promise 5: X became A", x.send(), 4);
        Check.due("promise 13: X became A", x.startOf(x.segments() - 1), 8);
        Check.due("promise 22: X became A", x.next(), 12);
    }

    private static void ahead() {
        SluiceStream x = new SluiceStream();
        x.write(0, 8);
        x.send();
        x.send();
        x.tick(8);
        x.deliver(0);
        x.deliver(0);
        Check.due("promise 10: above N", x.deliverAck(1), 8);
        Check.due("promise 22: N becomes A", x.next(), 8);
        Check.due("promise 33: stopped", x.timerEnd(), SluiceStream.NONE);
        Check.due("promise 34: nothing was timed", x.roundTrip(), 0);
        Check.due("promise 32: no sample", x.timeout(), 16);
        Check.due("promise 28: grows", x.congestionWindow(), 8);
    }
}
