/** write, read and setLimit. */
public final class ApplicationTest {
    private static final Class<IllegalArgumentException> ARGUMENT = IllegalArgumentException.class;
    private static final Class<IllegalStateException> STATE = IllegalStateException.class;

    public static void main(String[] args) {
        write();
        writeRefused();
        read();
        readTellsOfRoom();
        setLimit();
        Check.close(ApplicationTest.class);
    }

    private static void write() {
        SluiceStream x = new SluiceStream();
        Check.due("promise 2: the least", x.write(0, 1), 1);
        Check.due("promise 2: the most", x.write(255, 100), 101);
        Check.due("promise 24: written", x.written(), 101);
        for (int i = 0; i < 4; i++) {
            x.write(0, 100);
        }
        Check.due("promise 2: up to 600", x.write(9, 99), 600);
        Check.due("promise 24: written, all", x.written(), 600);
    }

    private static void writeRefused() {
        SluiceStream x = new SluiceStream();
        Check.refused("promise 2: first -1", x, ARGUMENT, () -> x.write(-1, 1));
        Check.refused("promise 2: first 256", x, ARGUMENT, () -> x.write(256, 1));
        Check.refused("promise 2: count 0", x, ARGUMENT, () -> x.write(0, 0));
        Check.refused("promise 2: count -1", x, ARGUMENT, () -> x.write(0, -1));
        Check.refused("promise 2: count 101", x, ARGUMENT, () -> x.write(0, 101));
        Check.refused("promise 2: first least", x, ARGUMENT, () -> x.write(Integer.MIN_VALUE, 1));
        Check.refused("promise 2: count most", x, ARGUMENT, () -> x.write(0, Integer.MAX_VALUE));
        for (int i = 0; i < 6; i++) {
            x.write(0, i == 0 ? 99 : 100);
        }
        Check.refused("promise 2: 601", x, STATE, () -> x.write(0, 2));
        Check.refused("promise 2: 699", x, STATE, () -> x.write(0, 100));
        Check.refused("promise 2: the first exception of two", x, ARGUMENT, () -> x.write(256, 100));
        Check.refused("promise 2: the first exception of two", x, ARGUMENT, () -> x.write(0, 101));
        x.write(0, 1);
        Check.refused("promise 2: 601 from 600", x, STATE, () -> x.write(0, 1));
    }

    private static void read() {
        SluiceStream x = new SluiceStream();
        Check.due("promise 3: nothing there", x.read(), SluiceStream.NONE);
        Check.due("promise 40: after nothing", x.readPosition(), 0);
        x.write(254, 4);
        x.write(7, 2);
        Check.due("promise 3: only what was delivered", x.read(), SluiceStream.NONE);
        x.send();
        x.send();
        x.deliver(1);
        Check.due("promise 3: not past a gap", x.read(), SluiceStream.NONE);
        x.deliver(0);
        int[] due = {254, 255, 0, 1, 7, 8};
        for (int i = 0; i < due.length; i++) {
            Check.due("promise 3: byte " + i, x.read(), due[i]);
            Check.due("promise 40: after byte " + i, x.readPosition(), i + 1);
        }
        Check.due("promise 3: all read", x.read(), SluiceStream.NONE);
        Check.due("promise 40: all read", x.readPosition(), 6);
        Check.due("promise 41: all read", x.window(), 32);
    }

    private static void readTellsOfRoom() {
        SluiceStream x = new SluiceStream();
        x.write(0, 100);
        for (int i = 0; i < 8; i++) {
            Drive.pass(x);
        }
        Check.due("promise 41: full", x.window(), 0);
        Drive.read(x, 3);
        Check.due("promise 3: no acknowledgement of a window of 3", x.acks(), 0);
        x.read();
        Check.due("promise 3: an acknowledgement of a window of 4", x.acks(), 1);
        Check.due("promise 16: of read", x.ackNumber(0), 32);
        Check.due("promise 17: of read", x.ackWindow(0), 4);
        Check.due("promise 18: of read", x.ackBlocks(0), 0);
        x.read();
        Check.due("promise 3: no second one", x.acks(), 1);
        x.deliverAck(0);
        Check.due("promise 25: from read", x.edge(), 36);
    }

    private static void setLimit() {
        SluiceStream x = new SluiceStream();
        Check.due("promise 4: the first limit", x.setLimit(4), 256);
        Check.due("promise 4: the least", x.setLimit(256), 4);
        Check.due("promise 4: the most", x.setLimit(6), 256);
        Check.refused("promise 4: 3", x, ARGUMENT, () -> x.setLimit(3));
        Check.refused("promise 4: 257", x, ARGUMENT, () -> x.setLimit(257));
        Check.refused("promise 4: -4", x, ARGUMENT, () -> x.setLimit(-4));
        Check.due("promise 4: refused ones change nothing", x.setLimit(7), 6);
    }
}
