/** The edges of the clock, the timer and the samples, each with the sentence that names it. */
public final class TimerEdgesTest {
    public static void main(String[] args) {
        noTimer();
        endsInItsTick();
        endsWithinALongTick();
        endsOnce();
        halfOfFlight();
        halfOfWhatHasNoMark();
        congestionAfterTimeout();
        timeoutDoubles();
        timeoutDoublesToTheMost();
        takesAllMarksAway();
        nextBecomesAcknowledged();
        endsRecovery();
        leavesNoDuplicates();
        timesNothing();
        leavesTheNetwork();
        firstSample();
        firstSampleOfNothing();
        laterSamples();
        leastTimeout();
        mostTimeout();
        sampleOfAByteSentAgain();
        Check.close(TimerEdgesTest.class);
    }

    private static void due(String what, SluiceStream x, int time, int timerEnd, int timeout) {
        Check.due("promise 20: " + what, x.time(), time);
        Check.due("promise 33: " + what, x.timerEnd(), timerEnd);
        Check.due("promise 32: " + what, x.timeout(), timeout);
    }

    // ---- "when the time has become that at which the timer ends, it ends"

    private static void noTimer() {
        SluiceStream x = new SluiceStream();
        Check.due("promise 6: the timer never started", x.tick(100), 0);
        due("the timer never started", x, 100, SluiceStream.NONE, 8);
        Check.due("promise 28: the timer never started", x.congestionWindow(), 8);
        x.write(0, 4);
        Drive.pass(x);
        Check.due("promise 6: the timer was stopped", x.tick(100), 0);
        Check.due("promise 28: the timer was stopped", x.congestionWindow(), 12);
    }

    private static void endsInItsTick() {
        SluiceStream x = Drive.singles(1);
        Check.due("promise 6: 7 of 8", x.tick(7), 0);
        due("7 of 8", x, 7, 8, 8);
        Check.due("promise 6: 8 of 8", x.tick(1), 1);
        due("8 of 8", x, 8, SluiceStream.NONE, 16);
        SluiceStream y = Drive.singles(1);
        Check.due("promise 6: 8 at once", y.tick(8), 1);
        Check.due("promise 6: it looks alike", State.of(y), State.of(x));
    }

    private static void endsWithinALongTick() {
        SluiceStream x = Drive.singles(1);
        Check.due("promise 6: 9 at once", x.tick(9), 1);
        due("9 at once", x, 9, SluiceStream.NONE, 16);
        SluiceStream y = Drive.singles(1);
        Check.due("promise 6: 100 at once", y.tick(100), 1);
        due("100 at once", y, 100, SluiceStream.NONE, 16);
    }

    private static void endsOnce() {
        SluiceStream x = Drive.singles(1);
        x.tick(8);
        Check.due("promise 6: it is stopped", x.tick(100), 0);
        Check.due("promise 32: it is stopped", x.timeout(), 16);
        x.send();
        due("started by a send alone", x, 108, 124, 16);
        Check.due("promise 6: once more", x.tick(16), 1);
    }

    // ---- "T becomes half of F, rounded down, but at least 8, C becomes 4"

    private static void halfOfFlight() {
        int[] flying = {1, 8, 15, 16, 17, 18, 19, 20, 24};
        int[] half = {8, 8, 8, 8, 8, 9, 9, 10, 12};
        for (int i = 0; i < flying.length; i++) {
            SluiceStream x = Drive.flying(flying[i]);
            Check.due("promise 26: " + flying[i], x.inFlight(), flying[i]);
            Check.due("promise 6: " + flying[i], x.tick(2), 1);
            Check.due("promise 29: half of " + flying[i], x.threshold(), half[i]);
        }
    }

    private static void halfOfWhatHasNoMark() {
        SluiceStream x = Drive.flying(24);
        Drive.bring(x, 32);
        Check.due("promise 26: 4 of 24 have marks", x.inFlight(), 20);
        x.tick(2);
        Check.due("promise 29: half of 20", x.threshold(), 10);
    }

    private static void congestionAfterTimeout() {
        SluiceStream x = Drive.flying(24);
        Check.due("promise 28: before", x.congestionWindow(), 36);
        x.tick(2);
        Check.due("promise 28: from 36", x.congestionWindow(), 4);
        x.send();
        x.tick(100);
        Check.due("promise 28: from 4", x.congestionWindow(), 4);
    }

    // ---- "the timeout becomes twice as long, but at most 64"

    private static void timeoutDoubles() {
        SluiceStream x = Drive.singles(1);
        int[] timeouts = {8, 16, 32, 64, 64, 64};
        for (int i = 0; i + 1 < timeouts.length; i++) {
            Check.due("promise 32: after " + i, x.timeout(), timeouts[i]);
            Check.due("promise 33: after " + i, x.timerEnd(), x.time() + timeouts[i]);
            Check.due("promise 6: one tick before " + timeouts[i], x.tick(timeouts[i] - 1), 0);
            Check.due("promise 6: at " + timeouts[i], x.tick(1), 1);
            Check.due("promise 32: twice " + timeouts[i], x.timeout(), timeouts[i + 1]);
            x.send();
        }
    }

    private static void timeoutDoublesToTheMost() {
        int[] trips = {10, 11, 21};
        int[] timeouts = {30, 33, 63};
        int[] twice = {60, 64, 64};
        for (int i = 0; i < trips.length; i++) {
            SluiceStream x = Drive.patient();
            Drive.trip(x, trips[i]);
            Check.due("promise 32: three times the first sample", x.timeout(), timeouts[i]);
            x.write(0, 1);
            x.send();
            Check.due("promise 6: at " + timeouts[i], x.tick(timeouts[i]), 1);
            Check.due("promise 32: twice " + timeouts[i], x.timeout(), twice[i]);
        }
    }

    // ---- "then all marks are taken away, N becomes A, there is no recovery, duplicates are 0 .."

    private static void takesAllMarksAway() {
        SluiceStream x = Drive.singles(8);
        Drive.bring(x, 1, 7);
        Check.due("promise 27: below N", x.isMarked(1) && x.isMarked(7), true);
        x.tick(8);
        Check.due("promise 27: from A on", x.isMarked(1) || x.isMarked(7), false);
        SluiceStream y = Drive.singles(8);
        Drive.deliverFrom(y, 5);
        Drive.deliverFrom(y, 7);
        y.tick(8);
        y.send();
        y.deliverAck(1);
        Check.due("promise 22: the marks are above N", y.next(), 4);
        Check.due("promise 27: above N", y.isMarked(5) && y.isMarked(7), true);
        y.tick(16);
        Check.due("promise 27: above N, taken away", y.isMarked(5) || y.isMarked(7), false);
    }

    private static void nextBecomesAcknowledged() {
        SluiceStream x = Drive.singles(8);
        Drive.bring(x, 0, 1, 2);
        x.tick(100);
        Check.due("promise 22: A", x.next(), 3);
        Check.due("promise 21: A", x.acknowledged(), 3);
        Check.due("promise 26: none", x.inFlight(), 0);
        Check.due("promise 23: H stays", x.highest(), 8);
    }

    private static void endsRecovery() {
        SluiceStream x = Drive.holding(1, 3, 5);
        x.send();
        x.tick(100);
        Check.due("promise 31: no recovery", x.recoveryEnd(), SluiceStream.NONE);
        Check.due("promise 5: from N, as there are no marks", x.send(), 4);
        Check.due("promise 22: step 2", x.next(), 4);
    }

    private static void leavesNoDuplicates() {
        SluiceStream x = Drive.holding(1, 3);
        Check.due("promise 30: two", x.duplicates(), 2);
        x.tick(8);
        Check.due("promise 30: none", x.duplicates(), 0);
        x.send();
        Drive.bring(x, 5);
        Check.due("promise 30: from 0 again", x.duplicates(), 1);
        Check.due("promise 31: 2 and 1 are not 3", x.recoveryEnd(), SluiceStream.NONE);
    }

    private static void timesNothing() {
        SluiceStream x = Drive.singles(1);
        x.tick(7);
        Check.due("promise 36: before", x.timedEnd(), 1);
        x.tick(1);
        Check.due("promise 36: after", x.timedEnd(), SluiceStream.NONE);
        x.deliver(0);
        Check.due("promise 10: after", x.deliverAck(0), 1);
        Check.due("promise 34: no sample", x.roundTrip(), 0);
        Check.due("promise 32: no sample", x.timeout(), 16);
    }

    private static void leavesTheNetwork() {
        SluiceStream x = Drive.singles(3);
        x.deliver(1);
        x.tick(8);
        Check.due("promise 12: under way still", x.segments(), 2);
        Check.due("promise 15: under way still", x.acks(), 1);
        Check.due("promise 42: the receiver has no timer", x.blocks(), 1);
    }

    // ---- samples

    private static void sampled(String what, SluiceStream x, int s, int v, int timeout) {
        Check.due("promise 34: " + what, x.roundTrip(), s);
        Check.due("promise 35: " + what, x.variation(), v);
        Check.due("promise 32: " + what, x.timeout(), timeout);
    }

    /** "With the first sample s, S becomes 8 s and V becomes 2 s." */
    private static void firstSample() {
        int[] trips = {1, 2, 7};
        for (int trip : trips) {
            SluiceStream x = new SluiceStream();
            sampled("no sample yet", x, 0, 0, 8);
            Drive.trip(x, trip);
            sampled("the first sample " + trip, x, 8 * trip, 2 * trip, 3 * trip);
        }
    }

    /** A sample of 0 is a first one, too: the next one is a later one. */
    private static void firstSampleOfNothing() {
        SluiceStream x = new SluiceStream();
        Drive.trip(x, 1);
        SluiceStream y = new SluiceStream();
        y.write(0, 1);
        Drive.pass(y);
        sampled("a first sample of 0", y, 0, 0, 2);
        Drive.trip(y, 1);
        sampled("1, after a first one of 0", y, 1, 1, 2);
        sampled("1, the first", x, 8, 2, 3);
    }

    /** "let d be s - S / 8 (rounded down); S becomes S + d, and V becomes V + |d| - V / 4 (rounded down)" */
    private static void laterSamples() {
        SluiceStream x = new SluiceStream();
        Drive.trip(x, 1);
        Drive.trip(x, 2);
        sampled("d is 1, V / 4 is 0", x, 9, 3, 4);
        Drive.trip(x, 3);
        sampled("S / 8 is 1 of 9, V / 4 is 0 of 3", x, 11, 5, 6);
        Drive.trip(x, 5);
        sampled("V / 4 is 1 of 5", x, 15, 8, 9);
        x.write(0, 1);
        Drive.pass(x);
        sampled("d is -1, S / 8 is 1 of 15, V / 4 is 2 of 8", x, 14, 7, 8);
        Drive.trip(x, 1);
        sampled("d is 0, V / 4 is 1 of 7", x, 14, 6, 7);
        SluiceStream y = Drive.patient();
        Drive.trip(y, 20);
        sampled("20", y, 160, 40, 60);
        Drive.trip(y, 1);
        sampled("d is -19", y, 141, 49, 64);
    }

    /** "the greater one of V and 1, added, but at least 2" */
    private static void leastTimeout() {
        SluiceStream x = new SluiceStream();
        x.write(0, 2);
        Drive.pass(x);
        sampled("0 and 1 are less than 2", x, 0, 0, 2);
        Drive.trip(x, 1);
        sampled("0 and 1 again", x, 1, 1, 2);
        Drive.trip(x, 1);
        sampled("0 and 2", x, 2, 2, 2);
        Drive.trip(x, 1);
        sampled("0 and 3", x, 3, 3, 3);
    }

    /** "at most 64" */
    private static void mostTimeout() {
        int[] first = {21, 22, 63};
        int[] timeouts = {63, 64, 64};
        for (int i = 0; i < first.length; i++) {
            SluiceStream x = Drive.patient();
            Drive.trip(x, first[i]);
            sampled("the first sample " + first[i], x, 8 * first[i], 2 * first[i], timeouts[i]);
        }
        int[] later = {12, 13, 14};
        int[] sums = {63, 64, 64};
        for (int i = 0; i < later.length; i++) {
            SluiceStream x = Drive.patient();
            Drive.trip(x, 20);
            Drive.trip(x, 20 + later[i]);
            sampled("20 and " + later[i] + " more", x, 160 + later[i], 30 + later[i], sums[i]);
        }
    }

    /** A segment that is sent again is not timed, so there is no sample of it. */
    private static void sampleOfAByteSentAgain() {
        SluiceStream x = Drive.patient();
        sampled("a byte that was sent four times", x, 0, 0, 64);
        Drive.trip(x, 63);
        Check.due("promise 21: one tick before the timer ends", x.acknowledged(), 2);
    }
}
