/** The edges of what send() sends, each with the sentence of the document that names it. */
public final class SendEdgesTest {
    public static void main(String[] args) {
        bytesOfASegment();
        nothingToSend();
        endsAtTheEdge();
        lastByteBelowTheEdge();
        probeAtTheEdge();
        probeOfWhatIsWritten();
        probeSentAgain();
        fitsIntoCongestionWindow();
        fitsIntoLimit();
        limitBelowFlight();
        endsAtAMark();
        goesOnPastMarks();
        marksAreNotInFlight();
        repairOfALongHole();
        repairEndsAtAMark();
        repairEndsAtNext();
        repairBelowTheGreatestMark();
        noRepairAboveTheGreatestMark();
        repairBelowNextAlone();
        repairFromTheGreaterOfAAndX();
        repairNeedsNoRoom();
        repairLeavesNext();
        newBytesInRecovery();
        sentAgainBelowHighest();
        highestGrowsWithARepeat();
        timedIfNoneIs();
        timerStartsIfStopped();
        fullList();
        Check.close(SendEdgesTest.class);
    }

    private static int written(SluiceStream x, int bytes) {
        x.write(0, bytes);
        return x.send();
    }

    /** The segment that was sent last, if it is the one that is due. */
    private static void sent(String what, SluiceStream x, int start, int end) {
        int before = x.segments();
        Check.due("promise 5: " + what, x.send(), end - start);
        Check.due("promise 12: " + what, x.segments(), before + 1);
        if (x.segments() > before) {
            Check.due("promise 13: " + what, x.startOf(before), start);
            Check.due("promise 14: " + what, x.endOf(before), end);
        }
    }

    private static void notSent(String what, SluiceStream x) {
        String before = State.of(x);
        Check.due("promise 5: " + what, x.send(), 0);
        Check.due("promise 5: nothing sent, nothing changed: " + what, State.of(x), before);
    }

    // ---- step 2

    /** "A segment has the bytes at 1 to 4 positions"; "as many bytes as possible up to 4, and ends at W" */
    private static void bytesOfASegment() {
        for (int bytes = 1; bytes <= 6; bytes++) {
            SluiceStream x = new SluiceStream();
            Check.due("promise 5: of " + bytes, written(x, bytes), Math.min(4, bytes));
            Check.due("promise 22: of " + bytes, x.next(), Math.min(4, bytes));
        }
        SluiceStream five = new SluiceStream();
        five.write(0, 5);
        sent("the first of 5", five, 0, 4);
        sent("the rest of 5", five, 4, 5);
        notSent("nothing of 5 is left", five);
    }

    /** "If it is W then, nothing is sent." */
    private static void nothingToSend() {
        notSent("nothing is written", new SluiceStream());
        SluiceStream x = new SluiceStream();
        Check.due("promise 5: all that is written", written(x, 1), 1);
        notSent("all is sent", x);
        x.deliver(0);
        x.deliverAck(0);
        notSent("all is acknowledged", x);
    }

    /** All that was written, up to here, is acknowledged; nothing is read, so the edge is 32. */
    private static SluiceStream acknowledged(int bytes) {
        SluiceStream x = new SluiceStream();
        x.write(0, bytes);
        for (int i = 0; x.acknowledged() < bytes && i < 10; i++) {
            Drive.pass(x);
        }
        Check.due("promise 25: nothing is read", x.edge(), 32);
        return x;
    }

    /** "ends at W, at the edge or at a position with a mark at the latest" */
    private static void endsAtTheEdge() {
        for (int below = 1; below <= 5; below++) {
            SluiceStream x = acknowledged(32 - below);
            Check.due("promise 5: " + below + " below the edge", written(x, 20), Math.min(4, below));
        }
    }

    /** "If N is below the edge": its last byte below it is no probe, so bytes may be in flight. */
    private static void lastByteBelowTheEdge() {
        SluiceStream x = acknowledged(28);
        Check.due("promise 5: in flight", written(x, 3), 3);
        x.write(0, 20);
        sent("one below the edge", x, 31, 32);
        notSent("at the edge, bytes in flight", x);
    }

    /** "If N is not below the edge, a probe of one byte is sent if F is 0, and nothing otherwise." */
    private static void probeAtTheEdge() {
        SluiceStream x = acknowledged(31);
        x.write(0, 20);
        sent("one below the edge", x, 31, 32);
        notSent("one byte is in flight", x);
        x.deliver(0);
        x.deliverAck(0);
        Check.due("promise 26: none in flight", x.inFlight(), 0);
        sent("a probe", x, 32, 33);
        Check.due("promise 26: the probe", x.inFlight(), 1);
        Check.due("promise 22: above the edge", x.next(), 33);
        Check.due("promise 25: stays", x.edge(), 32);
        notSent("a probe is in flight", x);
    }

    private static void probeOfWhatIsWritten() {
        notSent("at the edge, and all is sent", acknowledged(32));
    }

    private static void probeSentAgain() {
        SluiceStream x = acknowledged(32);
        x.write(0, 20);
        sent("a probe", x, 32, 33);
        Check.due("promise 38: the first probe", x.sentAgain(), 0);
        Check.due("promise 36: the first probe", x.timedEnd(), 33);
        x.lose(0);
        Check.due("promise 6: the probe was lost", x.tick(100), 1);
        Check.due("promise 22: at the edge", x.next(), 32);
        sent("the probe again", x, 32, 33);
        Check.due("promise 38: the probe again", x.sentAgain(), 1);
        Check.due("promise 36: the probe again", x.timedEnd(), SluiceStream.NONE);
    }

    /** "F and its number of bytes, added, are at most the lesser one of C and L": C is 8. */
    private static void fitsIntoCongestionWindow() {
        Check.due("promise 5: 4 and 4", written(Drive.singles(4), 4), 4);
        Check.due("promise 5: 5 and 3", written(Drive.singles(5), 3), 3);
        Check.due("promise 5: 7 and 1", written(Drive.singles(7), 1), 1);
        Check.due("promise 5: 5 and 4", written(Drive.singles(5), 4), 0);
        Check.due("promise 5: 6 and 3", written(Drive.singles(6), 3), 0);
        Check.due("promise 5: 8 and 1", written(Drive.singles(8), 1), 0);
    }

    private static int writtenWithin(int limit, int flying, int bytes) {
        SluiceStream x = Drive.singles(flying);
        x.setLimit(limit);
        return written(x, bytes);
    }

    private static void fitsIntoLimit() {
        Check.due("promise 4: 0 and 4 within 4", writtenWithin(4, 0, 9), 4);
        Check.due("promise 4: 1 and 3 within 4", writtenWithin(4, 1, 3), 3);
        Check.due("promise 4: 1 and 4 within 4", writtenWithin(4, 1, 4), 0);
        Check.due("promise 4: 3 and 1 within 4", writtenWithin(4, 3, 1), 1);
        Check.due("promise 4: 4 and 1 within 4", writtenWithin(4, 4, 1), 0);
        Check.due("promise 4: 3 and 4 within 7", writtenWithin(7, 3, 4), 4);
        Check.due("promise 4: 4 and 4 within 7", writtenWithin(7, 4, 4), 0);
        Check.due("promise 4: 4 and 4 within 8", writtenWithin(8, 4, 4), 4);
        Check.due("promise 4: C is the lesser one", writtenWithin(9, 5, 4), 0);
    }

    private static void limitBelowFlight() {
        SluiceStream x = Drive.singles(8);
        x.setLimit(4);
        x.write(0, 4);
        notSent("more in flight than L", x);
        for (int i = 0; i < 4; i++) {
            x.deliver(0);
            x.deliverAck(0);
        }
        notSent("as much in flight as L", x);
        x.setLimit(5);
        notSent("a segment is not cut to what L leaves", x);
        x.setLimit(8);
        Check.due("promise 4: 4 and 4 within 8", x.send(), 4);
    }

    /** N is 0, and the bytes there were told before they were to be sent again. */
    private static SluiceStream backWithMarks(int... marks) {
        SluiceStream x = Drive.singles(8);
        for (int mark : marks) {
            Drive.deliverFrom(x, mark);
        }
        x.tick(8);
        while (x.acks() > 0) {
            x.deliverAck(0);
        }
        return x;
    }

    private static void endsAtAMark() {
        sent("a mark at 1", backWithMarks(1), 0, 1);
        sent("a mark at 3", backWithMarks(3), 0, 3);
        sent("a mark at 4", backWithMarks(4), 0, 4);
        sent("a mark at 5", backWithMarks(5), 0, 4);
        sent("the first of two marks", backWithMarks(2, 3), 0, 2);
    }

    /** "N first goes on as long as it is below W and its position has a mark (.. also if nothing is sent)" */
    private static void goesOnPastMarks() {
        SluiceStream x = backWithMarks(1);
        x.send();
        Check.due("promise 22: at the mark", x.next(), 1);
        Check.due("promise 5: 1 and 4 do not fit into 4", x.send(), 0);
        Check.due("promise 22: past the mark, and nothing was sent", x.next(), 2);
        notSent("it is there already", x);
        SluiceStream y = backWithMarks(1, 2, 4);
        y.send();
        sent("between marks", y, 3, 4);
        Check.due("promise 22: at the next mark", y.next(), 4);
        SluiceStream z = backWithMarks(3, 4, 5, 6, 7);
        sent("all below the marks", z, 0, 3);
        Check.due("promise 22: at the marks", z.next(), 3);
        Check.due("promise 5: only marks up to W", z.send(), 0);
        Check.due("promise 22: W", z.next(), 8);
        z.write(0, 1);
        sent("what is written then", z, 8, 9);
    }

    /** "F, are the positions from A up to, not including, N that have no mark" */
    private static void marksAreNotInFlight() {
        Check.due("promise 26: A is N", new SluiceStream().inFlight(), 0);
        Check.due("promise 26: 8 from 0", Drive.singles(8).inFlight(), 8);
        SluiceStream x = backWithMarks(3, 6);
        Check.due("promise 26: marks from N on", x.inFlight(), 0);
        x.send();
        Check.due("promise 26: a mark at N", x.inFlight(), 3);
        x.send();
        Check.due("promise 26: a mark below N", x.inFlight(), 3);
        Check.due("promise 22: past that mark", x.next(), 4);
        SluiceStream y = Drive.singles(8);
        Drive.deliverFrom(y, 7);
        y.deliverAck(0);
        Check.due("promise 26: the last one below N", y.inFlight(), 7);
    }

    // ---- step 1

    /** "has as many bytes as possible up to 4 .. and X becomes its end" */
    private static void repairOfALongHole() {
        SluiceStream x = Drive.holding(5, 6, 7);
        sent("4 of a hole of 5", x, 0, 4);
        sent("the rest of it", x, 4, 5);
        notSent("the hole is repaired", x);
    }

    /** "ends at N or at a position with a mark at the latest" */
    private static void repairEndsAtAMark() {
        sent("a hole of 1", Drive.holding(1, 2, 3), 0, 1);
        sent("a hole of 2", Drive.holding(2, 4, 6), 0, 2);
        sent("a hole of 3", Drive.holding(3, 5, 7), 0, 3);
        sent("a hole of 4", Drive.holding(4, 5, 6), 0, 4);
    }

    private static void repairEndsAtNext() {
        SluiceStream x = Drive.holding(2, 3, 4);
        sent("up to the mark", x, 0, 2);
        x.deliver(x.segments() - 1);
        x.deliverAck(0);
        Check.due("promise 21: past the marks", x.acknowledged(), 5);
        Check.due("promise 31: N", x.recoveryEnd(), 8);
        x.write(0, 20);
        sent("up to N, and W is beyond", x, 5, 8);
        sent("new bytes then", x, 8, 12);
        SluiceStream y = Drive.singles(8);
        y.tick(8);
        y.send();
        Drive.bring(y, 1, 6, 7);
        Check.due("promise 31: N, with H beyond", y.recoveryEnd(), 4);
        sent("up to the mark", y, 0, 1);
        sent("up to N, and H is beyond", y, 2, 4);
    }

    /** "or p is below the greatest position with a mark" */
    private static void repairBelowTheGreatestMark() {
        SluiceStream x = Drive.holding(1, 3, 5);
        sent("p is A", x, 0, 1);
        sent("p is 2, marks are at 3 and 5", x, 2, 3);
        sent("p is one below the greatest mark", x, 4, 5);
        Check.due("promise 5: p is above the greatest mark", x.send(), 0);
    }

    private static void noRepairAboveTheGreatestMark() {
        SluiceStream x = Drive.holding(4, 5, 6);
        sent("p is A", x, 0, 4);
        Check.due("promise 26: it is in flight still", x.isMarked(7), false);
        notSent("p is one above the greatest mark", x);
        x.write(0, 3);
        sent("new bytes instead", x, 8, 11);
    }

    /** "below N, without a mark": after a timeout there may be holes and marks from N on, too. */
    private static void repairBelowNextAlone() {
        SluiceStream x = Drive.singles(8);
        x.tick(8);
        x.send();
        Drive.bring(x, 5, 6, 7);
        Check.due("promise 31: N", x.recoveryEnd(), 4);
        sent("all below N", x, 0, 4);
        sent("no hole is left below N, so from N up to the marks", x, 4, 5);
        sent("it is below N now, and below a mark", x, 4, 5);
        Check.due("promise 5: only marks are left", x.send(), 0);
        Check.due("promise 22: past the marks", x.next(), 8);
    }

    /** "from the greater one of A and X on"; "If p is A", without any mark */
    private static void repairFromTheGreaterOfAAndX() {
        SluiceStream x = Drive.holding(2, 3, 5);
        sent("from A, with X the same", x, 0, 2);
        sent("from X, that is above A", x, 4, 5);
        Drive.bring(x, 0, 1);
        Check.due("promise 21: below X", x.acknowledged(), 4);
        notSent("from X still, not from A once more", x);
        Drive.bring(x, 4);
        Check.due("promise 21: above X", x.acknowledged(), 6);
        Check.due("promise 27: no mark is left", x.isMarked(6) || x.isMarked(7), false);
        sent("from A, that is above X", x, 6, 8);
        notSent("from X again", x);
    }

    /** Step 1 asks for no room, as step 2 does. */
    private static void repairNeedsNoRoom() {
        SluiceStream x = Drive.holding(5, 6, 7);
        x.setLimit(4);
        Check.due("promise 26: more than L", x.inFlight(), 5);
        sent("a repair within no limit", x, 0, 4);
        SluiceStream y = Drive.holding(5, 6, 7);
        y.write(0, 3);
        sent("a repair", y, 0, 4);
        sent("the rest of it", y, 4, 5);
        sent("new bytes that fit", y, 8, 11);
        y.write(0, 1);
        notSent("new bytes that do not fit", y);
    }

    private static void repairLeavesNext() {
        SluiceStream x = Drive.holding(1, 3, 5);
        int before = x.inFlight();
        x.send();
        Check.due("promise 22: after a repair", x.next(), 8);
        Check.due("promise 23: after a repair", x.highest(), 8);
        Check.due("promise 26: after a repair", x.inFlight(), before);
        Check.due("promise 37: after a repair", x.sent(), 9);
        Check.due("promise 38: after a repair", x.sentAgain(), 1);
        Check.due("promise 36: after a repair", x.timedEnd(), SluiceStream.NONE);
    }

    /** "Otherwise": in recovery, with nothing to repair */
    private static void newBytesInRecovery() {
        SluiceStream x = Drive.holding(4, 5, 6);
        x.write(0, 20);
        x.send();
        Check.due("promise 26: 5 of 8", x.inFlight(), 5);
        notSent("5 and 4 do not fit into 8", x);
        Drive.bring(x, 7);
        sent("4 and 4 fit into 8", x, 8, 12);
        Check.due("promise 31: in recovery still", x.recoveryEnd(), 8);
        Check.due("promise 36: new bytes are timed", x.timedEnd(), 12);
    }

    // ---- what a segment that was sent leaves

    /** "A segment whose start is below H is sent again (H as it was before)" */
    private static void sentAgainBelowHighest() {
        SluiceStream x = Drive.singles(3);
        Check.due("promise 38: each from H on", x.sentAgain(), 0);
        Drive.bring(x, 0, 1);
        x.tick(100);
        sent("from one below H", x, 2, 3);
        Check.due("promise 38: from one below H", x.sentAgain(), 1);
        Check.due("promise 36: from one below H", x.timedEnd(), SluiceStream.NONE);
        x.write(0, 1);
        sent("from H", x, 3, 4);
        Check.due("promise 38: from H", x.sentAgain(), 1);
        Check.due("promise 36: from H", x.timedEnd(), 4);
        Check.due("promise 37: all five", x.sent(), 5);
    }

    /** "H becomes N if N is greater" */
    private static void highestGrowsWithARepeat() {
        SluiceStream x = backWithMarks(1);
        sent("less than before", x, 0, 1);
        Check.due("promise 23: less", x.highest(), 8);
        SluiceStream y = Drive.singles(3);
        y.tick(8);
        y.write(0, 1);
        sent("one more than before", y, 0, 4);
        Check.due("promise 23: one more", y.highest(), 4);
        Check.due("promise 38: it starts below H", y.sentAgain(), 1);
    }

    /** "otherwise, if no segment is being timed, it is timed from now on" */
    private static void timedIfNoneIs() {
        SluiceStream x = new SluiceStream();
        x.tick(3);
        written(x, 1);
        x.tick(1);
        written(x, 1);
        Check.due("promise 36: the first stays", x.timedEnd(), 1);
        x.tick(1);
        Drive.bring(x, 0);
        Check.due("promise 34: from the first", x.roundTrip(), 16);
        Check.due("promise 36: the second one was not timed", x.timedEnd(), SluiceStream.NONE);
        written(x, 1);
        Check.due("promise 36: the third", x.timedEnd(), 3);
    }

    /** "If the timer is stopped, it starts: it ends a timeout later." */
    private static void timerStartsIfStopped() {
        SluiceStream x = new SluiceStream();
        x.tick(3);
        x.send();
        Check.due("promise 33: nothing was sent", x.timerEnd(), SluiceStream.NONE);
        written(x, 1);
        Check.due("promise 33: started", x.timerEnd(), 11);
        x.tick(7);
        written(x, 1);
        Check.due("promise 33: not started anew", x.timerEnd(), 11);
        x.tick(1);
        x.send();
        Check.due("promise 33: started after it ended", x.timerEnd(), 27);
    }

    /** "Throws IllegalStateException if there are 40 segments in the list" */
    private static void fullList() {
        SluiceStream x = Drive.singles(1);
        Drive.fill(x, 0, 39);
        x.write(0, 8);
        sent("with 39 in the list", x, 1, 5);
        Check.refused("promise 5: with 40", x, IllegalStateException.class, x::send);
        x.lose(0);
        x.write(0, 1);
        Check.due("promise 5: with 39 again", x.send(), 0);
        Drive.bring(x, 0);
        sent("with 38, and it fits", x, 5, 9);
    }
}
