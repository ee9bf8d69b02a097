/** The two lists of the network. */
public final class NetworkTest {
    private static final Class<IndexOutOfBoundsException> INDEX = IndexOutOfBoundsException.class;
    private static final Class<IllegalStateException> STATE = IllegalStateException.class;

    public static void main(String[] args) {
        deliver();
        lose();
        duplicate();
        loseAck();
        noSuchPlace();
        ackBlocks();
        fullAcks();
        Check.close(NetworkTest.class);
    }

    private static SluiceStream two() {
        SluiceStream x = new SluiceStream();
        x.write(0, 7);
        x.send();
        x.send();
        return x;
    }

    private static void deliver() {
        SluiceStream x = two();
        Check.due("promise 7: out of order", x.deliver(1), 3);
        Check.due("promise 12: it leaves", x.segments(), 1);
        Check.due("promise 13: the other stays", x.startOf(0), 0);
        Check.due("promise 15: its acknowledgement", x.acks(), 1);
        Check.due("promise 16: the first gap", x.ackNumber(0), 0);
        Check.due("promise 17: before the gap", x.ackWindow(0), 32);
        Check.due("promise 18: a block", x.ackBlocks(0), 1);
        Check.due("promise 19: a block", x.ackBlock(0, 0), 4);
        x.duplicate(0);
        Check.due("promise 7: in order", x.deliver(0), 4);
        Check.due("promise 16: all", x.ackNumber(1), 7);
        Check.due("promise 17: all", x.ackWindow(1), 25);
        Check.due("promise 18: none", x.ackBlocks(1), 0);
        Drive.read(x, 7);
        Check.due("promise 7: nothing new", x.deliver(0), 0);
        Check.due("promise 15: of nothing new", x.acks(), 3);
        Check.due("promise 17: after reads", x.ackWindow(2), 32);
    }

    private static void lose() {
        SluiceStream x = two();
        Check.due("promise 8: its start", x.lose(1), 4);
        Check.due("promise 8: its start", x.lose(0), 0);
        Check.due("promise 12: none", x.segments(), 0);
        Check.due("promise 15: none", x.acks(), 0);
        Check.due("promise 39: none", x.inOrder(), 0);
    }

    private static void duplicate() {
        SluiceStream x = two();
        Check.due("promise 9: three", x.duplicate(0), 3);
        Check.due("promise 13: the copy", x.startOf(2), 0);
        Check.due("promise 14: the copy", x.endOf(2), 4);
        Check.due("promise 14: at the end", x.endOf(1), 7);
        Check.due("promise 37: a copy is not sent", x.sent(), 2);
        for (int i = 4; i <= 40; i++) {
            Check.due("promise 9: up to 40", x.duplicate(1), i);
        }
        Check.refused("promise 9: 41", x, STATE, () -> x.duplicate(0));
        Check.refused("promise 9: the first exception of two", x, INDEX, () -> x.duplicate(40));
        Check.due("promise 7: the last of 40", x.deliver(39), 3);
        Check.due("promise 9: room again", x.duplicate(0), 40);
        Check.due("promise 13: at the end", x.startOf(39), 0);
    }

    private static void loseAck() {
        SluiceStream x = two();
        x.deliver(0);
        x.deliver(0);
        Check.due("promise 11: its number", x.loseAck(0), 4);
        Check.due("promise 15: it leaves", x.acks(), 1);
        Check.due("promise 16: the other stays", x.ackNumber(0), 7);
        Check.due("promise 21: it does not arrive", x.acknowledged(), 0);
        Check.due("promise 11: its number", x.loseAck(0), 7);
        Check.due("promise 15: none", x.acks(), 0);
    }

    private static void noSuchPlace() {
        SluiceStream x = two();
        x.deliver(0);
        x.deliver(0);
        x.send();
        SluiceStream y = two();
        y.deliver(1);
        int[] none = {-1, 1, 40, Integer.MIN_VALUE, Integer.MAX_VALUE};
        for (int place : none) {
            Check.refused("promise 7: " + place, y, INDEX, () -> y.deliver(place));
            Check.refused("promise 8: " + place, y, INDEX, () -> y.lose(place));
            Check.refused("promise 9: " + place, y, INDEX, () -> y.duplicate(place));
            Check.refused("promise 10: " + place, y, INDEX, () -> y.deliverAck(place));
            Check.refused("promise 11: " + place, y, INDEX, () -> y.loseAck(place));
            Check.refused("promise 13: " + place, y, INDEX, () -> y.startOf(place));
            Check.refused("promise 14: " + place, y, INDEX, () -> y.endOf(place));
            Check.refused("promise 16: " + place, y, INDEX, () -> y.ackNumber(place));
            Check.refused("promise 17: " + place, y, INDEX, () -> y.ackWindow(place));
            Check.refused("promise 18: " + place, y, INDEX, () -> y.ackBlocks(place));
            Check.refused("promise 19: " + place, y, INDEX, () -> y.ackBlock(place, 0));
            Check.refused("promise 19: block " + place, y, INDEX, () -> y.ackBlock(0, place));
        }
        Check.refused("promise 7: an empty list", x, INDEX, () -> x.deliver(0));
        Check.refused("promise 19: no block", x, INDEX, () -> x.ackBlock(1, 0));
    }

    private static void told(String what, SluiceStream x, int... blocks) {
        int last = x.acks() - 1;
        Check.due("promise 18: " + what, x.ackBlocks(last), blocks.length);
        for (int i = 0; i < blocks.length && i < x.ackBlocks(last); i++) {
            Check.due("promise 19: " + what + ", block " + i, x.ackBlock(last, i), blocks[i]);
        }
    }

    private static void ackBlocks() {
        SluiceStream x = Drive.singles(8);
        x.duplicate(7);
        Drive.deliverFrom(x, 5);
        told("one", x, 5);
        Drive.deliverFrom(x, 1);
        told("the last one first", x, 1, 5);
        Drive.deliverFrom(x, 7);
        told("three", x, 7, 1, 5);
        Drive.deliverFrom(x, 3);
        told("three of four", x, 3, 7, 1);
        Check.refused("promise 19: no fourth one", x, INDEX, () -> x.ackBlock(3, 3));
        Check.due("promise 42: all four", x.blocks(), 4);
        Drive.deliverFrom(x, 4);
        told("grown together", x, 3, 7, 1);
        Check.due("promise 7: a copy", Drive.deliverFrom(x, 7), 0);
        told("a copy brings no byte", x, 3, 7, 1);
        Drive.deliverFrom(x, 0);
        told("below B is no block", x, 3, 7);
        Check.due("promise 16: past the first", x.ackNumber(x.acks() - 1), 2);
        Check.due("promise 19: what was told stays", x.ackBlock(3, 2), 1);
    }

    private static void fullAcks() {
        SluiceStream x = two();
        x.deliver(1);
        for (int i = 1; i < 40; i++) {
            x.duplicate(0);
            x.deliver(0);
        }
        Check.due("promise 15: 40", x.acks(), 40);
        Check.due("promise 16: the first", x.ackNumber(0), 0);
        x.deliver(0);
        Check.due("promise 15: still 40", x.acks(), 40);
        Check.due("promise 16: the first was lost", x.ackNumber(0), 7);
        Check.due("promise 18: the first was lost", x.ackBlocks(0), 0);
        Check.due("promise 16: the last", x.ackNumber(39), 7);
        readIntoFullList();
    }

    private static void readIntoFullList() {
        SluiceStream x = new SluiceStream();
        x.write(0, 32);
        for (int i = 0; i < 8; i++) {
            x.send();
            x.duplicate(0);
            x.deliver(0);
            x.deliverAck(0);
            if (i < 7) {
                x.lose(0);
            }
        }
        for (int i = 0; i < 39; i++) {
            x.duplicate(0);
            x.deliver(0);
        }
        x.deliver(0);
        Check.due("promise 15: 40 of a full receiver", x.acks(), 40);
        Drive.read(x, 4);
        Check.due("promise 15: read makes one, too", x.acks(), 40);
        Check.due("promise 17: the last", x.ackWindow(39), 4);
        Check.due("promise 17: the one before", x.ackWindow(38), 0);
    }
}
