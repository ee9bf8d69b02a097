/** The edges of what an acknowledgement does to the sender, each with the sentence that names it. */
public final class AckEdgesTest {
    public static void main(String[] args) {
        oneBelow();
        belowWithABlock();
        belowIsNoDuplicate();
        edgeOfTheSame();
        edgeOfOneMore();
        edgeOfLess();
        byOne();
        timedToItsEnd();
        beyondTheTimedEnd();
        nextIsLess();
        nextIsGreater();
        marksBelowAreTakenAway();
        duplicatesBecomeNone();
        recoveryEndsAtR();
        recoveryEndsAboveR();
        growsBelowThreshold();
        growsFromThreshold();
        growsToTheMost();
        timerStopsOrStartsAnew();
        timerStartsWithTheNewTimeout();
        marksOfABlock();
        marksOfThreeBlocks();
        duplicateNeedsBytesUnderWay();
        duplicateOfTheNumberAboveA();
        twoAreNotThree();
        recoveryOfWhatIsInFlight();
        recoveryAfterItsMarks();
        recoveryBegins();
        noRecoveryInRecovery();
        secondRecovery();
        repairsFromAcknowledgedAgain();
        Check.close(AckEdgesTest.class);
    }

    private static boolean marked(SluiceStream x, int... positions) {
        for (int position : positions) {
            if (!x.isMarked(position)) {
                return false;
            }
        }
        return true;
    }

    private static int marks(SluiceStream x) {
        int marks = 0;
        for (int p = 0; p < x.written(); p++) {
            marks += x.isMarked(p) ? 1 : 0;
        }
        return marks;
    }

    // ---- "When an acknowledgement arrives whose number is below A, nothing happens."

    /** The state but for the list of acknowledgements. */
    private static String stateButAcks(SluiceStream x) {
        String state = State.of(x);
        return state.substring(0, state.indexOf("; acks"));
    }

    private static void oneBelow() {
        SluiceStream x = Drive.singles(4);
        x.deliver(0);
        x.deliver(0);
        x.tick(1);
        x.deliverAck(1);
        Check.due("promise 21: two", x.acknowledged(), 2);
        x.tick(1);
        String before = stateButAcks(x);
        Check.due("promise 10: number 1, A is 2", x.deliverAck(0), 0);
        Check.due("promise 10: number 1, A is 2, changes nothing", stateButAcks(x), before);
        Check.due("promise 15: it leaves the list", x.acks(), 0);
    }

    private static void belowWithABlock() {
        SluiceStream x = Drive.singles(4);
        Drive.deliverFrom(x, 2);
        Drive.deliverFrom(x, 0);
        x.deliverAck(1);
        x.tick(100);
        Check.due("promise 27: a timeout took the mark away", x.isMarked(2), false);
        Check.due("promise 19: an old one tells of it", x.ackBlock(0, 0), 2);
        x.deliverAck(0);
        Check.due("promise 27: but its number is below A", x.isMarked(2), false);
    }

    private static void belowIsNoDuplicate() {
        SluiceStream x = Drive.singles(6);
        for (int start : new int[] {0, 2, 3, 1}) {
            Drive.deliverFrom(x, start);
        }
        x.deliverAck(3);
        Check.due("promise 21: four", x.acknowledged(), 4);
        x.deliverAck(0);
        x.deliverAck(0);
        Check.due("promise 30: two old ones", x.duplicates(), 0);
        Drive.deliverFrom(x, 5);
        x.deliverAck(1);
        Check.due("promise 30: one that is not old", x.duplicates(), 1);
        x.deliverAck(0);
        Check.due("promise 30: a third old one", x.duplicates(), 1);
        Check.due("promise 31: a third old one", x.recoveryEnd(), SluiceStream.NONE);
    }

    // ---- step 1: "The edge becomes the number and the window, added, if that is greater."

    /** A is 1 of 4, the acknowledgements tell of the edges 32 and then 33, both with the number 1. */
    private static SluiceStream twoEdges() {
        SluiceStream x = Drive.singles(4);
        Drive.bring(x, 0);
        x.duplicate(2);
        x.duplicate(2);
        Drive.deliverFrom(x, 3);
        x.read();
        Drive.deliverFrom(x, 3);
        Drive.deliverFrom(x, 3);
        Check.due("promise 17: before the read", x.ackWindow(0), 31);
        Check.due("promise 17: after the read", x.ackWindow(1), 32);
        return x;
    }

    private static void edgeOfTheSame() {
        SluiceStream x = twoEdges();
        x.deliverAck(0);
        Check.due("promise 25: 32 is not greater", x.edge(), 32);
        Check.due("promise 30: so it is a duplicate", x.duplicates(), 1);
    }

    private static void edgeOfOneMore() {
        SluiceStream x = twoEdges();
        x.deliverAck(1);
        Check.due("promise 25: 33 is greater", x.edge(), 33);
        Check.due("promise 30: so it is no duplicate", x.duplicates(), 0);
        x.deliverAck(1);
        Check.due("promise 25: 33 once more", x.edge(), 33);
        Check.due("promise 30: that is a duplicate", x.duplicates(), 1);
    }

    private static void edgeOfLess() {
        SluiceStream x = twoEdges();
        x.deliverAck(1);
        x.deliverAck(0);
        Check.due("promise 25: 32 is less", x.edge(), 33);
        Check.due("promise 30: so it is a duplicate", x.duplicates(), 1);
    }

    // ---- step 2

    /** "Returns by how much A grows." */
    private static void byOne() {
        SluiceStream x = Drive.singles(2);
        x.duplicate(0);
        x.deliver(0);
        Check.due("promise 10: one above A", x.deliverAck(0), 1);
        x.deliver(1);
        Check.due("promise 10: A itself", x.deliverAck(0), 0);
        Check.due("promise 21: A itself", x.acknowledged(), 1);
    }

    /** "if a segment is timed and the number is at least its end" */
    private static void timedToItsEnd() {
        SluiceStream x = Drive.singles(3);
        Drive.bring(x, 0);
        Check.due("promise 36: the others were not timed", x.timedEnd(), SluiceStream.NONE);
        x.tick(1);
        x.write(0, 1);
        x.send();
        Check.due("promise 36: the fourth", x.timedEnd(), 4);
        Drive.bring(x, 1, 2);
        Check.due("promise 21: one below its end", x.acknowledged(), 3);
        Check.due("promise 36: one below its end", x.timedEnd(), 4);
        Check.due("promise 34: one below its end", x.roundTrip(), 0);
        x.tick(1);
        Drive.bring(x, 3);
        Check.due("promise 36: its end", x.timedEnd(), SluiceStream.NONE);
        Check.due("promise 34: its end", x.roundTrip(), 1);
    }

    private static void beyondTheTimedEnd() {
        SluiceStream x = Drive.singles(2);
        x.tick(3);
        x.deliver(0);
        x.deliver(0);
        Check.due("promise 10: two", x.deliverAck(1), 2);
        Check.due("promise 36: above its end", x.timedEnd(), SluiceStream.NONE);
        Check.due("promise 34: above its end", x.roundTrip(), 24);
        Check.due("promise 28: once for both", x.congestionWindow(), 12);
    }

    /** "N becomes A if it is less" */
    private static void nextIsLess() {
        SluiceStream x = Drive.singles(8);
        x.tick(8);
        x.deliver(0);
        x.deliverAck(0);
        Check.due("promise 22: N was 0", x.next(), 1);
        Check.due("promise 33: A is N", x.timerEnd(), SluiceStream.NONE);
        x.send();
        Check.due("promise 22: four more", x.next(), 5);
        for (int i = 0; i < 5; i++) {
            x.deliver(0);
        }
        x.deliverAck(4);
        Check.due("promise 22: N was 5", x.next(), 6);
        Check.due("promise 21: N was 5", x.acknowledged(), 6);
    }

    private static void nextIsGreater() {
        SluiceStream x = Drive.singles(4);
        for (int i = 0; i < 4; i++) {
            x.deliver(0);
        }
        x.deliverAck(2);
        Check.due("promise 22: one above A", x.next(), 4);
        x.deliverAck(2);
        Check.due("promise 22: A itself", x.next(), 4);
    }

    private static void marksBelowAreTakenAway() {
        SluiceStream x = Drive.holding(1, 3);
        Drive.bring(x, 0);
        Check.due("promise 21: past the first", x.acknowledged(), 2);
        Check.due("promise 27: one below A", x.isMarked(1), false);
        Check.due("promise 27: one above A", x.isMarked(3), true);
        Check.due("promise 27: A itself", x.isMarked(2), false);
    }

    private static void duplicatesBecomeNone() {
        SluiceStream x = Drive.holding(4, 6);
        Check.due("promise 30: two", x.duplicates(), 2);
        Drive.bring(x, 0);
        Check.due("promise 30: none", x.duplicates(), 0);
        Drive.bring(x, 7);
        Check.due("promise 30: one again", x.duplicates(), 1);
        Check.due("promise 31: not the third", x.recoveryEnd(), SluiceStream.NONE);
    }

    /** "In recovery, if A is at least R, the recovery ends, and C becomes T" */
    private static void recoveryEndsAtR() {
        SluiceStream x = Drive.holding(1, 2, 3);
        Drive.bring(x, 0, 4, 5, 6);
        Check.due("promise 21: one below R", x.acknowledged(), 7);
        Check.due("promise 31: one below R", x.recoveryEnd(), 8);
        Check.due("promise 28: does not grow in recovery", x.congestionWindow(), 8);
        Drive.bring(x, 7);
        Check.due("promise 31: R", x.recoveryEnd(), SluiceStream.NONE);
        Check.due("promise 28: does not grow with its end", x.congestionWindow(), 8);
        x.write(0, 1);
        Drive.pass(x);
        Check.due("promise 28: grows after it", x.congestionWindow(), 10);
    }

    private static void recoveryEndsAboveR() {
        SluiceStream x = Drive.holding(1, 2, 3);
        Drive.bring(x, 0);
        x.write(0, 2);
        Check.due("promise 5: a repair", x.send(), 4);
        Check.due("promise 5: new bytes", x.send(), 2);
        for (int start = 5; start <= 8; start++) {
            Drive.deliverFrom(x, start);
        }
        Drive.deliverFrom(x, 4);
        while (x.acks() > 1) {
            x.loseAck(0);
        }
        Check.due("promise 10: above R", x.deliverAck(0), 6);
        Check.due("promise 21: above R", x.acknowledged(), 10);
        Check.due("promise 31: above R", x.recoveryEnd(), SluiceStream.NONE);
        Check.due("promise 28: above R", x.congestionWindow(), 8);
    }

    /** A stream whose T is 9 and C 4, with nothing under way: 18 bytes were in flight when the timer ended. */
    private static SluiceStream thresholdOfNine() {
        SluiceStream x = Drive.flying(18);
        x.tick(2);
        while (x.segments() > 0) {
            x.lose(0);
        }
        Drive.read(x, 8);
        Check.due("promise 29: nine", x.threshold(), 9);
        return x;
    }

    /** "out of recovery C grows by 4 if it is below T" */
    private static void growsBelowThreshold() {
        SluiceStream x = thresholdOfNine();
        Drive.pass(x);
        Check.due("promise 28: 4 is below 9", x.congestionWindow(), 8);
        Drive.pass(x);
        Check.due("promise 28: 8 is one below 9", x.congestionWindow(), 12);
        Drive.pass(x);
        Check.due("promise 28: 12 is not", x.congestionWindow(), 13);
        SluiceStream y = new SluiceStream();
        for (int c = 12; c <= 64; c += 4) {
            y.write(0, 1);
            Drive.pass(y);
            Check.due("promise 28: below 64", y.congestionWindow(), c);
        }
        y.write(0, 1);
        Drive.pass(y);
        Check.due("promise 28: 64 is not below 64", y.congestionWindow(), 65);
    }

    /** "and otherwise by 16 / C, rounded down, but at least 1" */
    private static void growsFromThreshold() {
        SluiceStream x = Drive.singles(1);
        x.tick(8);
        Drive.pass(x);
        x.lose(0);
        Check.due("promise 29: the least", x.threshold(), 8);
        Check.due("promise 28: to T", x.congestionWindow(), 8);
        for (int c : new int[] {10, 11, 12, 13, 14, 15, 16, 17, 18}) {
            x.write(0, 1);
            Drive.pass(x);
            Check.due("promise 28: to " + c, x.congestionWindow(), c);
        }
    }

    /**
     * "it is at most 256". No 512 calls get C there (each step takes a send, a delivery and an
     * acknowledgement), so this run is longer than what a stream is promised for.
     */
    private static void growsToTheMost() {
        SluiceStream x = new SluiceStream();
        int last = 8;
        for (int i = 0; i < 220; i++) {
            x.write(0, 1);
            Drive.pass(x);
            x.read();
            int c = x.congestionWindow();
            Check.due("promise 28: from " + last, c, last < 64 ? last + 4 : Math.min(256, last + 1));
            last = c;
        }
        Check.due("promise 28: the most", last, 256);
    }

    /** "Then the timer is stopped if A is N, and otherwise starts anew: it ends a timeout later." */
    private static void timerStopsOrStartsAnew() {
        SluiceStream x = Drive.singles(2);
        x.tick(3);
        Drive.bring(x, 0);
        Check.due("promise 33: A is one below N", x.timerEnd(), 3 + x.timeout());
        Check.due("promise 32: three times 3", x.timeout(), 9);
        x.tick(8);
        Drive.bring(x, 1);
        Check.due("promise 33: A is N", x.timerEnd(), SluiceStream.NONE);
        Check.due("promise 6: A is N", x.tick(100), 0);
    }

    private static void timerStartsWithTheNewTimeout() {
        SluiceStream x = Drive.singles(2);
        Drive.bring(x, 0);
        Check.due("promise 32: of a sample of 0", x.timeout(), 2);
        Check.due("promise 33: of a sample of 0", x.timerEnd(), 2);
        SluiceStream y = Drive.singles(3);
        y.tick(3);
        Drive.bring(y, 1);
        Check.due("promise 33: not for the same number", y.timerEnd(), 8);
    }

    // ---- step 3: "All positions of its blocks that are not below A get marks."

    private static void marksOfABlock() {
        SluiceStream x = new SluiceStream();
        for (int i = 0; i < 3; i++) {
            x.write(0, i == 0 ? 2 : 3);
            x.send();
        }
        Drive.bring(x, 2);
        Check.due("promise 27: the first and the last of the block", marked(x, 2, 3, 4), true);
        Check.due("promise 27: no other one", marks(x), 3);
        Drive.bring(x, 0);
        Check.due("promise 27: none is left", marks(x), 0);
    }

    private static void marksOfThreeBlocks() {
        SluiceStream x = Drive.singles(8);
        for (int start : new int[] {1, 3, 5, 7}) {
            Drive.deliverFrom(x, start);
        }
        x.deliverAck(3);
        Check.due("promise 27: the last three", marked(x, 3, 5, 7), true);
        Check.due("promise 27: not the fourth", marks(x), 3);
        x.deliverAck(0);
        Check.due("promise 27: of an earlier one", marked(x, 1, 3, 5, 7), true);
    }

    // ---- step 4

    /** "A is below N" */
    private static void duplicateNeedsBytesUnderWay() {
        SluiceStream x = Drive.singles(1);
        x.duplicate(0);
        x.duplicate(0);
        Drive.bring(x, 0, 0);
        Check.due("promise 30: A is N", x.duplicates(), 0);
        x.write(0, 1);
        x.send();
        Drive.bring(x, 0);
        Check.due("promise 30: A is one below N", x.duplicates(), 1);
    }

    /** "If the number was not above A" */
    private static void duplicateOfTheNumberAboveA() {
        SluiceStream x = Drive.singles(4);
        Drive.bring(x, 0, 1, 2);
        Check.due("promise 30: each was above A", x.duplicates(), 0);
        Check.due("promise 31: each was above A", x.recoveryEnd(), SluiceStream.NONE);
    }

    /** "If they are 3 then" */
    private static void twoAreNotThree() {
        SluiceStream x = Drive.holding(1, 3);
        Check.due("promise 30: two", x.duplicates(), 2);
        Check.due("promise 31: two", x.recoveryEnd(), SluiceStream.NONE);
        Check.due("promise 29: two", x.threshold(), 64);
        Drive.bring(x, 5);
        Check.due("promise 30: three", x.duplicates(), 3);
        Check.due("promise 31: three", x.recoveryEnd(), 8);
        Check.due("promise 29: three", x.threshold(), 8);
    }

    /** "T becomes half of F, rounded down, but at least 8, C becomes T" */
    private static void recoveryOfWhatIsInFlight() {
        int[] unmarked = {15, 16, 17, 18, 19, 20};
        int[] half = {8, 8, 8, 9, 9, 10};
        for (int i = 0; i < unmarked.length; i++) {
            SluiceStream x = Drive.flying(unmarked[i] + 4);
            x.duplicate(1);
            x.duplicate(1);
            Drive.bring(x, 32, 32, 32);
            Check.due("promise 26: in flight", x.inFlight(), unmarked[i]);
            Check.due("promise 29: half of " + unmarked[i], x.threshold(), half[i]);
            Check.due("promise 28: half of " + unmarked[i], x.congestionWindow(), half[i]);
            Check.due("promise 31: N", x.recoveryEnd(), 28 + unmarked[i] + 4);
        }
    }

    /** "in this order": the marks of step 3 are there when step 4 halves F. */
    private static void recoveryAfterItsMarks() {
        SluiceStream x = Drive.flying(24);
        x.duplicate(1);
        Drive.bring(x, 32, 32);
        Check.due("promise 26: with two", x.inFlight(), 20);
        Drive.bring(x, 36);
        Check.due("promise 26: with three", x.inFlight(), 16);
        Check.due("promise 29: half of 16", x.threshold(), 8);
        Check.due("promise 28: half of 16", x.congestionWindow(), 8);
    }

    /** "R becomes N, X becomes A, and no segment is timed" */
    private static void recoveryBegins() {
        SluiceStream x = Drive.holding(2, 4);
        Check.due("promise 36: before", x.timedEnd(), 1);
        x.tick(3);
        Drive.bring(x, 6);
        Check.due("promise 31: N", x.recoveryEnd(), 8);
        Check.due("promise 36: none", x.timedEnd(), SluiceStream.NONE);
        Check.due("promise 33: as it was", x.timerEnd(), 8);
        Check.due("promise 32: as it was", x.timeout(), 8);
        Check.due("promise 5: from A", x.send(), 2);
        Check.due("promise 13: from A", x.startOf(x.segments() - 1), 0);
    }

    /** "and it is not in recovery" */
    private static void noRecoveryInRecovery() {
        SluiceStream x = Drive.holding(1, 2, 3);
        x.write(0, 3);
        Check.due("promise 5: a repair", x.send(), 1);
        Check.due("promise 5: new bytes", x.send(), 3);
        Drive.bring(x, 0);
        Check.due("promise 30: a part", x.duplicates(), 0);
        Check.due("promise 5: a second repair", x.send(), 4);
        Drive.bring(x, 5, 6, 7);
        Check.due("promise 30: three again", x.duplicates(), 3);
        Check.due("promise 31: the R of before, not N", x.recoveryEnd(), 8);
        Drive.bring(x, 8);
        Check.due("promise 30: four", x.duplicates(), 4);
        Check.due("promise 31: with four", x.recoveryEnd(), 8);
        Check.due("promise 5: X stays, and nothing is left to send", x.send(), 0);
    }

    private static void secondRecovery() {
        SluiceStream x = Drive.holding(1, 2, 3);
        Drive.bring(x, 0, 4, 5, 6, 7);
        Check.due("promise 31: ended", x.recoveryEnd(), SluiceStream.NONE);
        for (int i = 0; i < 6; i++) {
            x.write(0, 1);
            x.send();
        }
        Drive.bring(x, 10, 11);
        Check.due("promise 31: two", x.recoveryEnd(), SluiceStream.NONE);
        Drive.bring(x, 12);
        Check.due("promise 31: a second one", x.recoveryEnd(), 14);
        Check.due("promise 5: from A", x.send(), 2);
        Check.due("promise 13: from A", x.startOf(x.segments() - 1), 8);
    }

    /** "X becomes A": it was above A when a timeout ended the recovery before. */
    private static void repairsFromAcknowledgedAgain() {
        SluiceStream x = Drive.holding(1, 3, 5);
        for (int i = 0; i < 3; i++) {
            Check.due("promise 5: a repair", x.send(), 1);
        }
        x.tick(100);
        Check.due("promise 5: from N", x.send(), 4);
        Drive.bring(x, 7, 2, 2);
        Check.due("promise 31: a second one", x.recoveryEnd(), 4);
        Check.due("promise 5: from A", x.send(), 1);
        Check.due("promise 13: from A", x.startOf(x.segments() - 1), 0);
    }
}
