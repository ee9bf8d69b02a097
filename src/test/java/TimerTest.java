/** The clock, the timer and the samples. */
public final class TimerTest {
    private static final Class<IllegalArgumentException> ARGUMENT = IllegalArgumentException.class;

    public static void main(String[] args) {
        clock();
        timerEnds();
        threshold();
        backOff();
        timerInRecovery();
        timerAfterAck();
        samples();
        sampleOfNothing();
        timing();
        Check.close(TimerTest.class);
    }

    private static void clock() {
        SluiceStream x = new SluiceStream();
        Check.due("promise 6: the timer is stopped", x.tick(1), 0);
        Check.due("promise 20: one", x.time(), 1);
        Check.due("promise 6: the most", x.tick(100), 0);
        Check.due("promise 20: 101", x.time(), 101);
        Check.refused("promise 6: 0", x, ARGUMENT, () -> x.tick(0));
        Check.refused("promise 6: -1", x, ARGUMENT, () -> x.tick(-1));
        Check.refused("promise 6: 101", x, ARGUMENT, () -> x.tick(101));
    }

    private static void timerEnds() {
        SluiceStream x = new SluiceStream();
        x.write(0, 60);
        x.send();
        x.tick(3);
        x.send();
        Check.due("promise 33: from the first", x.timerEnd(), 8);
        Check.due("promise 6: too early", x.tick(4), 0);
        Check.due("promise 22: too early", x.next(), 8);
        Check.due("promise 6: in time", x.tick(1), 1);
        Check.due("promise 22: N is A", x.next(), 0);
        Check.due("promise 23: stays", x.highest(), 8);
        Check.due("promise 26: nothing in flight", x.inFlight(), 0);
        Check.due("promise 28: C is 4", x.congestionWindow(), 4);
        Check.due("promise 29: at least 8", x.threshold(), 8);
        Check.due("promise 32: twice as long", x.timeout(), 16);
        Check.due("promise 33: stopped", x.timerEnd(), SluiceStream.NONE);
        Check.due("promise 36: none", x.timedEnd(), SluiceStream.NONE);
        Check.due("promise 12: the segments stay", x.segments(), 2);
        x.send();
        Check.due("promise 33: a new timeout", x.timerEnd(), 24);
    }

    /** A is 28, C is 36 and the edge 52, with all acknowledged. */
    private static SluiceStream wide() {
        SluiceStream x = new SluiceStream();
        x.write(0, 49);
        for (int i = 0; i < 6; i++) {
            Drive.pass(x);
        }
        Drive.read(x, 20);
        Drive.pass(x);
        Check.due("promise 28: grown by 4 each", x.congestionWindow(), 36);
        Check.due("promise 25: read by 20", x.edge(), 52);
        return x;
    }

    private static void threshold() {
        SluiceStream x = wide();
        Check.due("promise 5: all", Drive.sendAll(x), 21);
        Check.due("promise 26: all", x.inFlight(), 21);
        x.tick(2);
        Check.due("promise 29: half, rounded down", x.threshold(), 10);
        Check.due("promise 28: after a timeout", x.congestionWindow(), 4);
        Check.due("promise 22: after a timeout", x.next(), 28);

        SluiceStream y = wide();
        Drive.sendAll(y);
        Drive.deliverFrom(y, 32);
        y.deliverAck(0);
        y.tick(2);
        Check.due("promise 29: half of what has no mark", y.threshold(), 8);
        Check.due("promise 27: marks are taken away", y.isMarked(32), false);
        Check.due("promise 30: none", y.duplicates(), 0);
    }

    private static void backOff() {
        SluiceStream x = new SluiceStream();
        x.write(0, 4);
        int[] timeouts = {16, 32, 64, 64, 64};
        int span = 8;
        for (int i = 0; i < timeouts.length; i++) {
            x.send();
            Check.due("promise 6: before " + span, x.tick(span - 1), 0);
            Check.due("promise 6: at " + span, x.tick(1), 1);
            Check.due("promise 32: after " + span, x.timeout(), timeouts[i]);
            span = timeouts[i];
        }
        x.send();
        Check.due("promise 6: ends but once", x.tick(100), 1);
        Check.due("promise 38: each time", x.sentAgain(), 5);
    }

    private static void timerInRecovery() {
        SluiceStream x = Drive.recovering();
        x.send();
        x.tick(100);
        Check.due("promise 31: no recovery", x.recoveryEnd(), SluiceStream.NONE);
        Check.due("promise 30: none", x.duplicates(), 0);
        Check.due("promise 22: N is A", x.next(), 8);
        Check.due("promise 27: no marks", x.isMarked(12), false);
        Check.due("promise 5: from A", x.send(), 4);
        Check.due("promise 22: no repair", x.next(), 12);
    }

    private static void timerAfterAck() {
        SluiceStream x = new SluiceStream();
        x.write(0, 8);
        x.send();
        x.send();
        x.tick(3);
        x.deliver(0);
        x.deliverAck(0);
        Check.due("promise 32: 3 + 6", x.timeout(), 9);
        Check.due("promise 33: starts anew", x.timerEnd(), 12);
        x.tick(1);
        x.deliver(0);
        x.deliverAck(0);
        Check.due("promise 33: A is N", x.timerEnd(), SluiceStream.NONE);
        Check.due("promise 36: none", x.timedEnd(), SluiceStream.NONE);
        SluiceStream y = Drive.lossy();
        y.tick(1);
        int end = y.timerEnd();
        y.deliverAck(0);
        Check.due("promise 33: a duplicate leaves it", y.timerEnd(), end);
    }

    private static void passIn(SluiceStream x, int ticks) {
        x.send();
        x.tick(ticks);
        x.deliver(0);
        x.deliverAck(0);
    }

    private static void sampled(String what, SluiceStream x, int s, int v, int timeout) {
        Check.due("promise 34: " + what, x.roundTrip(), s);
        Check.due("promise 35: " + what, x.variation(), v);
        Check.due("promise 32: " + what, x.timeout(), timeout);
    }

    private static void samples() {
        SluiceStream x = new SluiceStream();
        x.write(0, 100);
        passIn(x, 7);
        sampled("the first sample", x, 56, 14, 21);
        passIn(x, 20);
        sampled("a later one", x, 69, 24, 32);
        passIn(x, 31);
        sampled("rounded down", x, 92, 41, 52);
        passIn(x, 51);
        sampled("at most 64", x, 132, 71, 64);
        passIn(x, 1);
        sampled("a lesser one", x, 117, 69, 64);
    }

    private static void sampleOfNothing() {
        SluiceStream x = new SluiceStream();
        x.write(0, 100);
        Drive.pass(x);
        sampled("a first sample of 0", x, 0, 0, 2);
        passIn(x, 1);
        sampled("a sample of 1 is no first one", x, 1, 1, 2);
        SluiceStream y = new SluiceStream();
        y.write(0, 100);
        passIn(y, 1);
        sampled("a first sample of 1", y, 8, 2, 3);
        passIn(y, 1);
        sampled("V below 4 stays", y, 8, 2, 3);
    }

    private static void timing() {
        SluiceStream x = new SluiceStream();
        x.write(0, 100);
        Drive.pass(x);
        x.send();
        x.tick(2);
        x.send();
        x.deliver(0);
        x.deliverAck(0);
        x.send();
        x.send();
        Check.due("promise 36: from H on", x.timedEnd(), 12);
        x.tick(4);
        Check.due("promise 36: a timeout", x.timedEnd(), SluiceStream.NONE);
        x.send();
        Drive.deliverFrom(x, 8);
        x.deliverAck(0);
        Check.due("promise 28: below T", x.congestionWindow(), 8);
        int trip = x.roundTrip();
        x.send();
        x.send();
        Check.due("promise 13: new bytes behind old ones", x.startOf(x.segments() - 1), 16);
        Check.due("promise 36: new bytes", x.timedEnd(), 20);
        Drive.deliverFrom(x, 12);
        Check.due("promise 10: the old ones", x.deliverAck(0), 4);
        Check.due("promise 36: not yet", x.timedEnd(), 20);
        Check.due("promise 34: not yet", x.roundTrip(), trip);
        x.tick(1);
        Drive.deliverFrom(x, 16);
        x.deliverAck(0);
        Check.due("promise 36: taken", x.timedEnd(), SluiceStream.NONE);
        Check.due("promise 34: taken", x.roundTrip(), trip + 1);
    }
}
