/** The edges of the receiver and of the two lists, each with the sentence that names it. */
public final class ReceiverEdgesTest {
    public static void main(String[] args) {
        nothingToRead();
        readUpToTheGap();
        readWraps();
        firstMissing();
        leastAndMostWindow();
        blockOfOne();
        blocksThatMeet();
        blockAtTheEndOfTheRoom();
        lastPositionOfTheRoom();
        firstPositionBeyondTheRoom();
        bytesThatItHas();
        acknowledgesNothingNew();
        upToThreeBlocks();
        lastBlockFirst();
        copyMovesNoBlock();
        byteMovesABlock();
        readTellsOfFour();
        readTellsOnceEachTime();
        readTellsOfBlocks();
        readTellsIntoAFullList();
        fortyAcks();
        endsOfTheLists();
        Check.close(ReceiverEdgesTest.class);
    }

    private static String told(SluiceStream x, int place) {
        StringBuilder told = new StringBuilder();
        for (int block = 0; block < x.ackBlocks(place); block++) {
            told.append(x.ackBlock(place, block)).append(' ');
        }
        return told.toString();
    }

    private static void toldLast(String what, SluiceStream x, String blocks) {
        Check.due("promises 18, 19: " + what, told(x, x.acks() - 1), blocks);
    }

    /** All was acknowledged, up to here, and nothing was read. */
    private static SluiceStream unread(int bytes) {
        SluiceStream x = new SluiceStream();
        x.write(0, bytes);
        for (int i = 0; x.acknowledged() < bytes && i < 10; i++) {
            Drive.pass(x);
        }
        return x;
    }

    // ---- "Returns the byte; NONE if the read position is B."

    private static void nothingToRead() {
        SluiceStream x = new SluiceStream();
        String before = State.of(x);
        Check.due("promise 3: nothing came", x.read(), SluiceStream.NONE);
        Check.due("promise 3: nothing came, nothing changes", State.of(x), before);
        SluiceStream y = unread(1);
        Check.due("promise 3: the last one", y.read(), 0);
        before = State.of(y);
        Check.due("promise 3: all is read", y.read(), SluiceStream.NONE);
        Check.due("promise 3: all is read, nothing changes", State.of(y), before);
    }

    private static void readUpToTheGap() {
        SluiceStream x = Drive.singles(3);
        Drive.deliverFrom(x, 2);
        Check.due("promise 3: B is 0", x.read(), SluiceStream.NONE);
        Drive.deliverFrom(x, 0);
        Check.due("promise 3: below the gap", x.read(), 0);
        Check.due("promise 3: at the gap", x.read(), SluiceStream.NONE);
        Check.due("promise 40: at the gap", x.readPosition(), 1);
        Drive.deliverFrom(x, 1);
        Check.due("promise 3: the gap is filled", x.read(), 1);
        Check.due("promise 3: behind it", x.read(), 2);
    }

    /** "first, first + 1 and so on, each modulo 256" */
    private static void readWraps() {
        SluiceStream x = new SluiceStream();
        x.write(254, 4);
        x.write(255, 2);
        Drive.pass(x);
        Drive.pass(x);
        for (int value : new int[] {254, 255, 0, 1, 255, 0}) {
            Check.due("promise 2: modulo 256", x.read(), value);
        }
    }

    // ---- "B is the first position at which it has no byte"; "Its window is the read position and 32, less B."

    private static void firstMissing() {
        SluiceStream x = Drive.singles(3);
        Check.due("promise 39: none", x.inOrder(), 0);
        Drive.deliverFrom(x, 1);
        Check.due("promise 39: all but the first", x.inOrder(), 0);
        Drive.deliverFrom(x, 0);
        Check.due("promise 39: past the block", x.inOrder(), 2);
        Drive.deliverFrom(x, 2);
        Check.due("promise 39: all", x.inOrder(), 3);
    }

    private static void leastAndMostWindow() {
        SluiceStream x = unread(31);
        Check.due("promise 41: one is left", x.window(), 1);
        x.write(0, 1);
        Drive.pass(x);
        Check.due("promise 41: none is left", x.window(), 0);
        Drive.read(x, 32);
        Check.due("promise 41: all is read", x.window(), 32);
        Check.due("promise 3: no more than that", x.read(), SluiceStream.NONE);
        Check.due("promise 41: no more than that", x.window(), 32);
    }

    // ---- "A block is a longest run of positions above B at which it has bytes."

    private static void blockOfOne() {
        SluiceStream x = Drive.singles(2);
        Drive.deliverFrom(x, 1);
        Check.due("promise 42: one above B", x.blocks(), 1);
        Check.due("promise 43: one above B", x.blockStart(0), 1);
        Check.due("promise 44: one above B", x.blockEnd(0), 2);
        Drive.deliverFrom(x, 0);
        Check.due("promise 42: below B", x.blocks(), 0);
    }

    private static void blocksThatMeet() {
        SluiceStream x = Drive.singles(8);
        for (int start : new int[] {2, 4}) {
            Drive.deliverFrom(x, start);
        }
        Check.due("promise 42: one apart", x.blocks(), 2);
        Drive.deliverFrom(x, 5);
        Check.due("promise 42: grown at its end", x.blocks(), 2);
        Check.due("promise 44: grown at its end", x.blockEnd(1), 6);
        Drive.deliverFrom(x, 1);
        Check.due("promise 43: grown at its start", x.blockStart(0), 1);
        Drive.deliverFrom(x, 3);
        Check.due("promise 42: they meet", x.blocks(), 1);
        Check.due("promise 43: they meet", x.blockStart(0), 1);
        Check.due("promise 44: they meet", x.blockEnd(0), 6);
    }

    private static void blockAtTheEndOfTheRoom() {
        SluiceStream x = unread(28);
        for (int i = 0; i < 4; i++) {
            x.write(0, 1);
            x.send();
        }
        Check.due("promise 7: the last position of the room", Drive.deliverFrom(x, 31), 1);
        Check.due("promise 43: the last position of the room", x.blockStart(0), 31);
        Check.due("promise 44: the last position of the room", x.blockEnd(0), 32);
        toldLast("the last position of the room", x, "31 ");
    }

    // ---- "those of its bytes whose positions are below the read position and 32, and at which it has none"

    private static void lastPositionOfTheRoom() {
        SluiceStream x = unread(28);
        x.write(0, 4);
        x.send();
        Check.due("promise 7: 28 to 31", x.deliver(0), 4);
        Check.due("promise 39: 28 to 31", x.inOrder(), 32);
    }

    private static void firstPositionBeyondTheRoom() {
        SluiceStream x = unread(32);
        x.write(77, 1);
        x.send();
        x.duplicate(0);
        Check.due("promise 7: 32, and nothing is read", x.deliver(0), 0);
        Check.due("promise 39: 32, and nothing is read", x.inOrder(), 32);
        Check.due("promise 42: 32, and nothing is read", x.blocks(), 0);
        x.read();
        Check.due("promise 7: 32, and one is read", x.deliver(0), 1);
        Check.due("promise 39: 32, and one is read", x.inOrder(), 33);
        Drive.read(x, 31);
        Check.due("promise 3: 32", x.read(), 77);
    }

    /** Bytes of one segment that came before, in other segments. */
    private static int broughtBesides(int... before) {
        SluiceStream x = Drive.singles(4);
        x.tick(8);
        x.send();
        for (int start : before) {
            Drive.deliverFrom(x, start);
        }
        int last = x.segments() - 1;
        Check.due("promise 14: of all four", x.endOf(last), 4);
        int brought = x.deliver(last);
        Check.due("promise 39: all four", x.inOrder(), 4);
        return brought;
    }

    private static void bytesThatItHas() {
        Check.due("promise 7: all are new", broughtBesides(), 4);
        Check.due("promise 7: it has the first", broughtBesides(0), 3);
        Check.due("promise 7: it has the last", broughtBesides(3), 3);
        Check.due("promise 7: it has one between", broughtBesides(1), 3);
        Check.due("promise 7: it has the outer ones", broughtBesides(3, 0), 2);
        Check.due("promise 7: it has all but one", broughtBesides(0, 1, 3), 1);
        Check.due("promise 7: it has all", broughtBesides(0, 1, 2, 3), 0);
    }

    // ---- "then it makes an acknowledgement: with the number B, the window, and up to 3 blocks"

    private static void acknowledgesNothingNew() {
        SluiceStream x = Drive.singles(1);
        x.duplicate(0);
        x.deliver(0);
        Check.due("promise 7: a copy", x.deliver(0), 0);
        Check.due("promise 15: a copy", x.acks(), 2);
        Check.due("promise 16: a copy", x.ackNumber(1), 1);
        Check.due("promise 17: a copy", x.ackWindow(1), 31);
        Check.due("promise 18: a copy", x.ackBlocks(1), 0);
    }

    private static void upToThreeBlocks() {
        SluiceStream x = Drive.singles(8);
        Drive.deliverFrom(x, 0);
        toldLast("none", x, "");
        Drive.deliverFrom(x, 2);
        toldLast("one", x, "2 ");
        Drive.deliverFrom(x, 4);
        toldLast("two", x, "4 2 ");
        Drive.deliverFrom(x, 6);
        toldLast("three", x, "6 4 2 ");
        SluiceStream y = Drive.singles(8);
        for (int start : new int[] {1, 3, 5, 7}) {
            Drive.deliverFrom(y, start);
        }
        Check.due("promise 42: four", y.blocks(), 4);
        toldLast("three of four", y, "7 5 3 ");
    }

    /** "first the block to which a byte came last, then that to which one came last before, and so on" */
    private static void lastBlockFirst() {
        SluiceStream x = Drive.singles(8);
        for (int start : new int[] {4, 2, 6}) {
            Drive.deliverFrom(x, start);
        }
        toldLast("not by positions", x, "6 2 4 ");
        Drive.deliverFrom(x, 0);
        toldLast("a byte to no block", x, "6 2 4 ");
    }

    private static void copyMovesNoBlock() {
        SluiceStream x = Drive.singles(8);
        x.duplicate(2);
        for (int start : new int[] {2, 4, 6}) {
            Drive.deliverFrom(x, start);
        }
        Check.due("promise 7: a copy", Drive.deliverFrom(x, 2), 0);
        toldLast("no byte came to it", x, "6 4 2 ");
    }

    private static void byteMovesABlock() {
        SluiceStream x = Drive.singles(8);
        for (int start : new int[] {2, 4, 7, 1}) {
            Drive.deliverFrom(x, start);
        }
        toldLast("one before its start", x, "1 7 4 ");
        Drive.deliverFrom(x, 5);
        toldLast("one at its end", x, "4 1 7 ");
        Drive.deliverFrom(x, 3);
        toldLast("one between two", x, "1 7 ");
        Drive.deliverFrom(x, 6);
        toldLast("one between two", x, "1 ");
    }

    // ---- "When read() makes the window 4 or more that was less, it makes an acknowledgement, too."

    private static void readTellsOfFour() {
        SluiceStream x = unread(32);
        int[] acks = {0, 0, 0, 1, 1, 1};
        for (int i = 0; i < acks.length; i++) {
            x.read();
            Check.due("promise 41: the window", x.window(), i + 1);
            Check.due("promise 15: with a window of " + (i + 1), x.acks(), acks[i]);
        }
        Check.due("promise 16: B", x.ackNumber(0), 32);
        Check.due("promise 17: after the read", x.ackWindow(0), 4);
        SluiceStream y = unread(29);
        Check.due("promise 41: three", y.window(), 3);
        y.read();
        Check.due("promise 15: from 3 to 4", y.acks(), 1);
        SluiceStream z = unread(28);
        Check.due("promise 41: four", z.window(), 4);
        z.read();
        Check.due("promise 15: from 4 to 5", z.acks(), 0);
    }

    private static void readTellsOnceEachTime() {
        SluiceStream x = unread(32);
        Drive.read(x, 4);
        x.deliverAck(0);
        Check.due("promise 25: four more", x.edge(), 36);
        x.write(0, 4);
        Drive.pass(x);
        Check.due("promise 41: full again", x.window(), 0);
        Drive.read(x, 3);
        Check.due("promise 15: of the second time, not yet", x.acks(), 0);
        x.read();
        Check.due("promise 15: of the second time", x.acks(), 1);
        Check.due("promise 16: of the second time", x.ackNumber(0), 36);
    }

    private static void readTellsOfBlocks() {
        SluiceStream x = unread(28);
        for (int i = 0; i < 4; i++) {
            x.write(0, 1);
            x.send();
        }
        for (int start : new int[] {28, 31}) {
            Drive.deliverFrom(x, start);
        }
        Check.due("promise 41: three", x.window(), 3);
        x.read();
        Check.due("promise 15: made by the read", x.acks(), 3);
        Check.due("promise 16: made by the read", x.ackNumber(2), 29);
        Check.due("promise 17: made by the read", x.ackWindow(2), 4);
        toldLast("made by the read", x, "31 ");
        x.deliverAck(2);
        Check.due("promise 27: made by the read", x.isMarked(31), true);
        Check.due("promise 25: made by the read", x.edge(), 33);
    }

    // ---- the lists

    /** "when the receiver makes an acknowledgement with 40 in the list, the first one is lost" */
    private static SluiceStream unreadWithAcks(int acks) {
        SluiceStream x = unread(32);
        x.write(0, 1);
        x.send();
        for (int i = 0; i < acks; i++) {
            x.duplicate(0);
            x.deliver(0);
        }
        return x;
    }

    private static void readTellsIntoAFullList() {
        SluiceStream x = unreadWithAcks(39);
        Drive.read(x, 4);
        Check.due("promise 15: the 40th", x.acks(), 40);
        Check.due("promise 17: the 40th", x.ackWindow(39), 4);
        Check.due("promise 17: the one before", x.ackWindow(38), 0);
        SluiceStream y = unreadWithAcks(40);
        Drive.read(y, 3);
        Check.due("promise 17: none is lost yet", y.ackWindow(39), 0);
        y.read();
        Check.due("promise 15: the 41st", y.acks(), 40);
        Check.due("promise 17: the 41st", y.ackWindow(39), 4);
        Check.due("promise 17: the 40th moved up", y.ackWindow(38), 0);
    }

    private static void fortyAcks() {
        SluiceStream x = Drive.singles(3);
        Drive.deliverFrom(x, 2);
        Drive.deliverFrom(x, 0);
        Drive.fill(x, 0, 40);
        while (x.acks() < 39) {
            x.deliver(1);
        }
        Check.due("promise 16: the first of 39", x.ackNumber(0), 0);
        x.deliver(1);
        Check.due("promise 15: 40", x.acks(), 40);
        Check.due("promise 16: the first of 40", x.ackNumber(0), 0);
        Check.due("promise 16: the second of 40", x.ackNumber(1), 1);
        Check.due("promises 18, 19: the second of 40", told(x, 1), "2 ");
        x.duplicate(0);
        x.deliver(1);
        Check.due("promise 15: 40 still", x.acks(), 40);
        Check.due("promise 16: the first was lost", x.ackNumber(0), 1);
        Check.due("promises 18, 19: the second is the first", told(x, 0), "2 ");
        Check.due("promise 16: the last", x.ackNumber(39), 3);
    }

    /** "Segments that are sent, and acknowledgements that are made, come to the end of their lists." */
    private static void endsOfTheLists() {
        SluiceStream x = Drive.singles(3);
        x.duplicate(0);
        x.write(0, 4);
        x.send();
        int[] starts = {0, 1, 2, 0, 3};
        for (int i = 0; i < starts.length; i++) {
            Check.due("promise 13: at " + i, x.startOf(i), starts[i]);
        }
        Check.due("promise 37: a copy is not sent", x.sent(), 4);
        x.lose(1);
        Check.due("promise 13: the ones behind move up", x.startOf(1), 2);
        Check.due("promise 13: the ones before stay", x.startOf(0), 0);
        Check.due("promise 13: the last moves up", x.startOf(3), 3);
        x.deliver(0);
        x.deliver(0);
        x.deliver(0);
        Check.due("promise 16: the first made", x.ackNumber(0), 1);
        Check.due("promise 18: the first made", x.ackBlocks(0), 0);
        Check.due("promise 18: the second made", x.ackBlocks(1), 1);
        x.loseAck(0);
        Check.due("promise 18: the second moves up", x.ackBlocks(0), 1);
        Check.due("promise 15: two", x.acks(), 2);
    }
}
