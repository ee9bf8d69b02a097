/** What can be seen of the receiver. */
public final class ReceiverTest {
    private static final Class<IndexOutOfBoundsException> INDEX = IndexOutOfBoundsException.class;

    public static void main(String[] args) {
        inOrder();
        blocks();
        window();
        probeOfARoom();
        Check.close(ReceiverTest.class);
    }

    private static void inOrder() {
        SluiceStream x = Drive.singles(4);
        Drive.deliverFrom(x, 0);
        Check.due("promise 39: one", x.inOrder(), 1);
        Drive.deliverFrom(x, 2);
        Check.due("promise 39: a gap", x.inOrder(), 1);
        Drive.deliverFrom(x, 1);
        Check.due("promise 39: the gap is filled", x.inOrder(), 3);
        Check.due("promise 40: nothing read", x.readPosition(), 0);
        x.read();
        Check.due("promise 40: read", x.readPosition(), 1);
        Check.due("promise 39: read", x.inOrder(), 3);
    }

    private static void blocks() {
        SluiceStream x = Drive.singles(8);
        Drive.deliverFrom(x, 0);
        Check.due("promise 42: in order is no block", x.blocks(), 0);
        Drive.deliverFrom(x, 6);
        Drive.deliverFrom(x, 2);
        Drive.deliverFrom(x, 3);
        Check.due("promise 42: two", x.blocks(), 2);
        Check.due("promise 43: by positions", x.blockStart(0), 2);
        Check.due("promise 44: by positions", x.blockEnd(0), 4);
        Check.due("promise 43: the second", x.blockStart(1), 6);
        Check.due("promise 44: the second", x.blockEnd(1), 7);
        for (int block : new int[] {-1, 2, Integer.MIN_VALUE, Integer.MAX_VALUE}) {
            Check.refused("promise 43: " + block, x, INDEX, () -> x.blockStart(block));
            Check.refused("promise 44: " + block, x, INDEX, () -> x.blockEnd(block));
        }
        Drive.deliverFrom(x, 1);
        Check.due("promise 42: one grew into what is in order", x.blocks(), 1);
        Check.due("promise 43: the other", x.blockStart(0), 6);
        Drive.deliverFrom(x, 4);
        Drive.deliverFrom(x, 5);
        Check.due("promise 42: none", x.blocks(), 0);
        Check.refused("promise 43: none", x, INDEX, () -> x.blockStart(0));
        Check.refused("promise 44: none", x, INDEX, () -> x.blockEnd(0));
    }

    private static void window() {
        SluiceStream x = Drive.singles(5);
        Drive.deliverFrom(x, 3);
        Check.due("promise 41: a block takes no window", x.window(), 32);
        Drive.deliverFrom(x, 0);
        Check.due("promise 41: a byte takes one", x.window(), 31);
        x.read();
        Check.due("promise 41: a read byte gives it back", x.window(), 32);
    }

    private static void probeOfARoom() {
        SluiceStream x = new SluiceStream();
        x.write(0, 100);
        for (int i = 0; i < 8; i++) {
            Drive.pass(x);
        }
        x.send();
        x.duplicate(0);
        Check.due("promise 7: at the end of the room", x.deliver(0), 0);
        Check.due("promise 41: full", x.window(), 0);
        x.read();
        Check.due("promise 41: room for one", x.window(), 1);
        Check.due("promise 7: the same segment brings it now", x.deliver(0), 1);
        Check.due("promise 39: one more", x.inOrder(), 33);
        Check.due("promise 17: none left", x.ackWindow(1), 0);
    }
}
