/** Common stretches of calls, so that a test can say where it starts from. */
final class Drive {
    private Drive() {
    }

    /** Sends a segment, delivers it and delivers its acknowledgement; both lists are empty ahead of it. */
    static int pass(SluiceStream x) {
        int bytes = x.send();
        x.deliver(0);
        x.deliverAck(0);
        return bytes;
    }

    static void read(SluiceStream x, int bytes) {
        for (int i = 0; i < bytes; i++) {
            x.read();
        }
    }

    static int sendAll(SluiceStream x) {
        int bytes = 0;
        int some = x.send();
        for (int i = 0; i < 40 && some > 0; i++) {
            bytes += some;
            some = x.send();
        }
        return bytes;
    }

    /** Segments of one byte each, at 0, 1 and so on. */
    static SluiceStream singles(int count) {
        SluiceStream x = new SluiceStream();
        for (int i = 0; i < count; i++) {
            x.write(i, 1);
            x.send();
        }
        return x;
    }

    /** Delivers the segment that starts at a position, wherever it lies. */
    static int deliverFrom(SluiceStream x, int start) {
        for (int i = 0; i < x.segments(); i++) {
            if (x.startOf(i) == start) {
                return x.deliver(i);
            }
        }
        throw new AssertionError("no segment from " + start);
    }

    /** The same eight segments, of which those at these positions came and were acknowledged, one by one. */
    static SluiceStream holding(int... starts) {
        SluiceStream x = singles(8);
        bring(x, starts);
        return x;
    }

    /** Delivers the segments that start there, each with its acknowledgement, the only one in the list. */
    static void bring(SluiceStream x, int... starts) {
        for (int start : starts) {
            deliverFrom(x, start);
            x.deliverAck(0);
        }
    }

    /** Doubles a segment until the list has so many. */
    static void fill(SluiceStream x, int place, int segments) {
        for (int i = x.segments(); i < segments; i++) {
            x.duplicate(place);
        }
    }

    /** All 28 bytes are acknowledged, C is 36 and the edge 52; then so many more are sent. */
    static SluiceStream flying(int bytes) {
        SluiceStream x = new SluiceStream();
        x.write(0, 28);
        for (int i = 0; i < 6; i++) {
            pass(x);
        }
        read(x, 20);
        pass(x);
        x.write(0, bytes);
        sendAll(x);
        return x;
    }

    /** A byte was acknowledged without a sample, and the timeout is 64: so the first sample may be up to 63. */
    static SluiceStream patient() {
        SluiceStream x = new SluiceStream();
        x.write(0, 1);
        for (int ticks = 8; ticks < 64; ticks *= 2) {
            x.send();
            x.tick(ticks);
            x.lose(0);
        }
        pass(x);
        return x;
    }

    /** Sends a new byte and has it acknowledged after so many ticks. */
    static void trip(SluiceStream x, int ticks) {
        x.write(0, 1);
        x.send();
        x.tick(ticks);
        x.deliver(0);
        x.deliverAck(0);
    }

    /** A is 8, C is 16; 8-12 and 16-20 are lost, 12-16, 20-24 and 24-28 came; 28-32 is under way. */
    static SluiceStream lossy() {
        SluiceStream x = new SluiceStream();
        x.write(0, 100);
        pass(x);
        pass(x);
        x.setLimit(16);
        sendAll(x);
        x.setLimit(256);
        x.lose(0);
        x.lose(1);
        x.deliver(0);
        x.deliver(0);
        x.deliverAck(0);
        x.deliverAck(0);
        x.send();
        x.send();
        x.deliver(0);
        return x;
    }

    /** The same, in recovery: the third acknowledgement with the number 8 has come. */
    static SluiceStream recovering() {
        SluiceStream x = lossy();
        x.deliverAck(0);
        return x;
    }
}
