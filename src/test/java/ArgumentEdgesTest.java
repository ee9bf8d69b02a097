import java.util.ArrayList;
import java.util.LinkedHashMap;
import java.util.List;
import java.util.Map;
import java.util.Random;
import java.util.function.Function;
import java.util.function.ToIntBiFunction;

/**
 * Every argument: too small, too large, the last ones that are taken; which exception comes first;
 * and that a refused call changes nothing.
 */
public final class ArgumentEdgesTest {
    private static final Class<IllegalArgumentException> ARGUMENT = IllegalArgumentException.class;
    private static final Class<IllegalStateException> STATE = IllegalStateException.class;
    private static final Class<IndexOutOfBoundsException> INDEX = IndexOutOfBoundsException.class;
    private static final int MIN = Integer.MIN_VALUE;
    private static final int MAX = Integer.MAX_VALUE;

    /** The calls that take a place in the list of segments, with the number of their promise. */
    private static final Map<String, ToIntBiFunction<SluiceStream, Integer>> SEGMENT_CALLS = new LinkedHashMap<>();
    private static final Map<String, ToIntBiFunction<SluiceStream, Integer>> ACK_CALLS = new LinkedHashMap<>();

    static {
        SEGMENT_CALLS.put("promise 7: deliver", SluiceStream::deliver);
        SEGMENT_CALLS.put("promise 8: lose", SluiceStream::lose);
        SEGMENT_CALLS.put("promise 9: duplicate", SluiceStream::duplicate);
        SEGMENT_CALLS.put("promise 13: startOf", SluiceStream::startOf);
        SEGMENT_CALLS.put("promise 14: endOf", SluiceStream::endOf);
        ACK_CALLS.put("promise 10: deliverAck", SluiceStream::deliverAck);
        ACK_CALLS.put("promise 11: loseAck", SluiceStream::loseAck);
        ACK_CALLS.put("promise 16: ackNumber", SluiceStream::ackNumber);
        ACK_CALLS.put("promise 17: ackWindow", SluiceStream::ackWindow);
        ACK_CALLS.put("promise 18: ackBlocks", SluiceStream::ackBlocks);
        ACK_CALLS.put("promise 19: ackBlock", (x, place) -> x.ackBlock(place, 0));
    }

    public static void main(String[] args) {
        firstOfWrite();
        countOfWrite();
        sixHundred();
        refusedWriteLeavesNoByte();
        bytesOfLimit();
        ticksOfTick();
        emptyLists();
        listsOfOne();
        fullSegments();
        duplicateInAFullList();
        fullAcks();
        blockOfAck();
        positionOfMark();
        noBlock();
        oneBlock();
        sixteenBlocks();
        refusedSendLeavesNext();
        refusedSendLeavesRepairs();
        refusedCallsInARun();
        Check.close(ArgumentEdgesTest.class);
    }

    // ---- promise 2

    /** "first: 0 to 255" */
    private static void firstOfWrite() {
        for (int first : new int[] {-1, 256, MIN, MAX}) {
            SluiceStream x = new SluiceStream();
            Check.refused("promise 2: first " + first, x, ARGUMENT, () -> x.write(first, 1));
        }
        for (int first : new int[] {0, 255}) {
            SluiceStream x = new SluiceStream();
            Check.due("promise 2: first " + first, x.write(first, 1), 1);
            Drive.pass(x);
            Check.due("promise 2: the byte " + first, x.read(), first);
        }
    }

    /** "count: 1 to 100" */
    private static void countOfWrite() {
        for (int count : new int[] {0, -1, 101, MIN, MAX}) {
            SluiceStream x = new SluiceStream();
            Check.refused("promise 2: count " + count, x, ARGUMENT, () -> x.write(0, count));
        }
        Check.due("promise 2: count 1", new SluiceStream().write(0, 1), 1);
        Check.due("promise 2: count 100", new SluiceStream().write(0, 100), 100);
    }

    private static SluiceStream written(int bytes) {
        SluiceStream x = new SluiceStream();
        for (int left = bytes; left > 0; left -= 100) {
            x.write(0, Math.min(left, 100));
        }
        return x;
    }

    /** "Throws IllegalStateException if there would be more than 600", behind the other exception. */
    private static void sixHundred() {
        Check.due("promise 2: 500 and 100", written(500).write(0, 100), 600);
        Check.due("promise 2: 501 and 99", written(501).write(0, 99), 600);
        Check.due("promise 2: 599 and 1", written(599).write(0, 1), 600);
        SluiceStream x = written(501);
        Check.refused("promise 2: 501 and 100", x, STATE, () -> x.write(0, 100));
        SluiceStream y = written(599);
        Check.refused("promise 2: 599 and 2", y, STATE, () -> y.write(0, 2));
        SluiceStream z = written(600);
        Check.refused("promise 2: 600 and 1", z, STATE, () -> z.write(0, 1));
        Check.refused("promise 2: 600 and 100", z, STATE, () -> z.write(255, 100));
        Check.refused("promise 2: 600, first -1", z, ARGUMENT, () -> z.write(-1, 1));
        Check.refused("promise 2: 600, first 256", z, ARGUMENT, () -> z.write(256, 1));
        Check.refused("promise 2: 600, count 0", z, ARGUMENT, () -> z.write(0, 0));
        Check.refused("promise 2: 600, count 101", z, ARGUMENT, () -> z.write(0, 101));
        Check.refused("promise 2: 600, count most", z, ARGUMENT, () -> z.write(0, MAX));
    }

    private static void refusedWriteLeavesNoByte() {
        SluiceStream x = new SluiceStream();
        x.write(1, 2);
        Check.refused("promise 2: first out of range", x, ARGUMENT, () -> x.write(256, 4));
        Check.refused("promise 2: count out of range", x, ARGUMENT, () -> x.write(9, 101));
        x.write(7, 2);
        Drive.pass(x);
        for (int value : new int[] {1, 2, 7, 8, SluiceStream.NONE}) {
            Check.due("promise 2: a refused write left nothing", x.read(), value);
        }
    }

    // ---- promises 4 and 6

    /** "bytes: 4 to 256" */
    private static void bytesOfLimit() {
        SluiceStream x = new SluiceStream();
        for (int bytes : new int[] {3, 0, -1, -4, 257, MIN, MAX}) {
            Check.refused("promise 4: bytes " + bytes, x, ARGUMENT, () -> x.setLimit(bytes));
        }
        Check.due("promise 4: refused ones left 256", x.setLimit(4), 256);
        Check.refused("promise 4: bytes 3 after 4", x, ARGUMENT, () -> x.setLimit(3));
        Check.due("promise 4: 4 was taken", x.setLimit(256), 4);
        Check.due("promise 4: 256 was taken", x.setLimit(255), 256);
        Check.due("promise 4: 255 was taken", x.setLimit(5), 255);
    }

    /** "ticks: 1 to 100" */
    private static void ticksOfTick() {
        SluiceStream x = new SluiceStream();
        x.write(0, 4);
        x.send();
        x.tick(7);
        for (int ticks : new int[] {0, -1, 101, MIN, MAX}) {
            Check.refused("promise 6: ticks " + ticks, x, ARGUMENT, () -> x.tick(ticks));
        }
        Check.due("promise 6: ticks 1", x.tick(1), 1);
        Check.due("promise 20: ticks 1", x.time(), 8);
        Check.due("promise 6: ticks 100", x.tick(100), 0);
        Check.due("promise 20: ticks 100", x.time(), 108);
    }

    // ---- the two lists

    private static void none(String when, Map<String, ToIntBiFunction<SluiceStream, Integer>> calls,
            SluiceStream x, int size) {
        calls.forEach((name, call) -> {
            for (int place : new int[] {-1, size, size + 1, MIN, MAX}) {
                Check.refused(name + "(" + place + ")" + when, x, INDEX, () -> call.applyAsInt(x, place));
            }
        });
    }

    private static void some(String name, Map<String, ToIntBiFunction<SluiceStream, Integer>> calls,
            SluiceStream x, int place, int want) {
        Check.due(name + "(" + place + ")", calls.get(name).applyAsInt(x, place), want);
    }

    private static void emptyLists() {
        SluiceStream x = new SluiceStream();
        none(", no segment yet", SEGMENT_CALLS, x, 0);
        none(", no acknowledgement yet", ACK_CALLS, x, 0);
        x.write(0, 4);
        Drive.pass(x);
        Check.due("promise 12: none any more", x.segments(), 0);
        Check.due("promise 15: none any more", x.acks(), 0);
        none(", no segment any more", SEGMENT_CALLS, x, 0);
        none(", no acknowledgement any more", ACK_CALLS, x, 0);
    }

    private static SluiceStream one() {
        SluiceStream x = Drive.singles(2);
        x.deliver(1);
        return x;
    }

    private static void listsOfOne() {
        none(", one segment", SEGMENT_CALLS, one(), 1);
        none(", one acknowledgement", ACK_CALLS, one(), 1);
        some("promise 7: deliver", SEGMENT_CALLS, one(), 0, 1);
        some("promise 8: lose", SEGMENT_CALLS, one(), 0, 0);
        some("promise 9: duplicate", SEGMENT_CALLS, one(), 0, 2);
        some("promise 13: startOf", SEGMENT_CALLS, one(), 0, 0);
        some("promise 14: endOf", SEGMENT_CALLS, one(), 0, 1);
        some("promise 10: deliverAck", ACK_CALLS, one(), 0, 0);
        some("promise 11: loseAck", ACK_CALLS, one(), 0, 0);
        some("promise 16: ackNumber", ACK_CALLS, one(), 0, 0);
        some("promise 17: ackWindow", ACK_CALLS, one(), 0, 32);
        some("promise 18: ackBlocks", ACK_CALLS, one(), 0, 1);
        some("promise 19: ackBlock", ACK_CALLS, one(), 0, 1);
    }

    /** The first of 40 segments has the bytes 0 to 3, and the last one the bytes 4 to 6. */
    private static SluiceStream fortySegments() {
        SluiceStream x = new SluiceStream();
        x.write(0, 7);
        x.send();
        x.send();
        Drive.fill(x, 1, 40);
        return x;
    }

    private static void fullSegments() {
        Check.due("promise 12: 40", fortySegments().segments(), 40);
        none(", 40 segments", SEGMENT_CALLS, fortySegments(), 40);
        some("promise 7: deliver", SEGMENT_CALLS, fortySegments(), 0, 4);
        some("promise 7: deliver", SEGMENT_CALLS, fortySegments(), 39, 3);
        some("promise 8: lose", SEGMENT_CALLS, fortySegments(), 0, 0);
        some("promise 8: lose", SEGMENT_CALLS, fortySegments(), 39, 4);
        some("promise 13: startOf", SEGMENT_CALLS, fortySegments(), 0, 0);
        some("promise 13: startOf", SEGMENT_CALLS, fortySegments(), 39, 4);
        some("promise 14: endOf", SEGMENT_CALLS, fortySegments(), 0, 4);
        some("promise 14: endOf", SEGMENT_CALLS, fortySegments(), 39, 7);
    }

    /** "Throws IllegalStateException if there are 40", behind the other exception. */
    private static void duplicateInAFullList() {
        SluiceStream x = fortySegments();
        Check.refused("promise 9: the first of 40", x, STATE, () -> x.duplicate(0));
        Check.refused("promise 9: the last of 40", x, STATE, () -> x.duplicate(39));
        Check.refused("promise 9: 40 and no such segment", x, INDEX, () -> x.duplicate(40));
        Check.refused("promise 9: 40 and no such segment", x, INDEX, () -> x.duplicate(-1));
        x.lose(0);
        Check.due("promise 9: the last of 39", x.duplicate(38), 40);
    }

    /** The first of 40 acknowledgements is 0 with the block 2, the last one 1 with the blocks 4 and 2. */
    private static SluiceStream fortyAcks() {
        SluiceStream x = Drive.singles(5);
        Drive.deliverFrom(x, 2);
        while (x.acks() < 39) {
            x.duplicate(x.segments() - 1);
            Drive.deliverFrom(x, 4);
        }
        Drive.deliverFrom(x, 0);
        return x;
    }

    private static void fullAcks() {
        Check.due("promise 15: 40", fortyAcks().acks(), 40);
        none(", 40 acknowledgements", ACK_CALLS, fortyAcks(), 40);
        some("promise 10: deliverAck", ACK_CALLS, fortyAcks(), 0, 0);
        some("promise 10: deliverAck", ACK_CALLS, fortyAcks(), 39, 1);
        some("promise 11: loseAck", ACK_CALLS, fortyAcks(), 0, 0);
        some("promise 11: loseAck", ACK_CALLS, fortyAcks(), 39, 1);
        some("promise 16: ackNumber", ACK_CALLS, fortyAcks(), 0, 0);
        some("promise 16: ackNumber", ACK_CALLS, fortyAcks(), 39, 1);
        some("promise 17: ackWindow", ACK_CALLS, fortyAcks(), 0, 32);
        some("promise 17: ackWindow", ACK_CALLS, fortyAcks(), 39, 31);
        some("promise 18: ackBlocks", ACK_CALLS, fortyAcks(), 0, 1);
        some("promise 18: ackBlocks", ACK_CALLS, fortyAcks(), 39, 2);
        some("promise 19: ackBlock", ACK_CALLS, fortyAcks(), 0, 2);
        some("promise 19: ackBlock", ACK_CALLS, fortyAcks(), 39, 4);
    }

    /** "if there is no such acknowledgement, or no such block" */
    private static void blockOfAck() {
        SluiceStream x = Drive.singles(8);
        Drive.deliverFrom(x, 0);
        int[] starts = {2, 4, 6};
        for (int start : starts) {
            Drive.deliverFrom(x, start);
        }
        for (int blocks = 0; blocks <= 3; blocks++) {
            int place = blocks;
            for (int block : new int[] {-1, blocks, blocks + 1, MIN, MAX}) {
                Check.refused("promise 19: block " + block + " of " + blocks, x, INDEX, () -> x.ackBlock(place, block));
            }
            for (int block = 0; block < blocks; block++) {
                Check.due("promise 19: block " + block + " of " + blocks, x.ackBlock(place, block), starts[blocks - 1 - block]);
            }
        }
        Check.refused("promise 19: a block of no acknowledgement", x, INDEX, () -> x.ackBlock(4, 0));
        Check.refused("promise 19: neither", x, INDEX, () -> x.ackBlock(4, 3));
        Check.refused("promise 19: neither", x, INDEX, () -> x.ackBlock(-1, -1));
    }

    // ---- promises 27, 43 and 44

    /** "position: 0 or more, less than W" */
    private static void positionOfMark() {
        for (int w : new int[] {0, 1, 600}) {
            SluiceStream x = written(w);
            for (int position : new int[] {-1, w, w + 1, MIN, MAX}) {
                Check.refused("promise 27: " + position + " of " + w, x, INDEX, () -> x.isMarked(position));
            }
        }
        Check.due("promise 27: 0 of 1", written(1).isMarked(0), false);
        Check.due("promise 27: 0 of 600", written(600).isMarked(0), false);
        Check.due("promise 27: 599 of 600", written(600).isMarked(599), false);
    }

    private static void noSuchBlock(SluiceStream x, int blocks) {
        Check.due("promise 42: " + blocks, x.blocks(), blocks);
        for (int block : new int[] {-1, blocks, blocks + 1, MIN, MAX}) {
            Check.refused("promise 43: " + block + " of " + blocks, x, INDEX, () -> x.blockStart(block));
            Check.refused("promise 44: " + block + " of " + blocks, x, INDEX, () -> x.blockEnd(block));
        }
    }

    private static void noBlock() {
        noSuchBlock(new SluiceStream(), 0);
        SluiceStream x = Drive.singles(2);
        x.deliver(0);
        noSuchBlock(x, 0);
    }

    private static void oneBlock() {
        SluiceStream x = Drive.singles(2);
        x.deliver(1);
        noSuchBlock(x, 1);
        Check.due("promise 43: 0 of 1", x.blockStart(0), 1);
        Check.due("promise 44: 0 of 1", x.blockEnd(0), 2);
    }

    /** As many blocks as there can be: every other one of the 32 positions that the receiver takes. */
    private static void sixteenBlocks() {
        SluiceStream x = new SluiceStream();
        for (int i = 0; i < 7; i++) {
            x.write(i, 1);
            x.send();
            x.duplicate(0);
            x.deliver(0);
            x.deliverAck(0);
            x.read();
            x.deliver(0);
            x.deliverAck(0);
        }
        Check.due("promise 25: all was read", x.edge(), 39);
        for (int p = 7; p < 39; p++) {
            x.write(p, 1);
            Check.due("promise 5: at " + p, x.send(), 1);
        }
        for (int p = 8; p < 39; p += 2) {
            Check.due("promise 7: at " + p, Drive.deliverFrom(x, p), 1);
        }
        noSuchBlock(x, 16);
        for (int block = 0; block < 16; block++) {
            Check.due("promise 43: " + block + " of 16", x.blockStart(block), 8 + 2 * block);
            Check.due("promise 44: " + block + " of 16", x.blockEnd(block), 9 + 2 * block);
        }
        int last = x.acks() - 1;
        Check.due("promise 18: 3 of 16", x.ackBlocks(last), 3);
        Check.due("promise 19: the last that came", x.ackBlock(last, 0), 38);
        Check.due("promise 19: the one before", x.ackBlock(last, 1), 36);
        Check.due("promise 19: the one before that", x.ackBlock(last, 2), 34);
    }

    // ---- "A call that throws an exception changes nothing"

    /** N is at a mark, past which a send() that is not refused lets it go. */
    private static void refusedSendLeavesNext() {
        SluiceStream x = Drive.singles(8);
        Drive.deliverFrom(x, 1);
        x.tick(8);
        x.deliverAck(0);
        Check.due("promise 5: up to the mark", x.send(), 1);
        Drive.fill(x, 0, 40);
        Check.refused("promise 5: 40 segments, N at a mark", x, STATE, x::send);
        Check.due("promise 22: N stays at the mark", x.next(), 1);
        x.lose(39);
        x.send();
        Check.due("promise 22: N goes on with 39", x.next(), 2);
    }

    /** A refused repair is due afterwards still. */
    private static void refusedSendLeavesRepairs() {
        SluiceStream x = Drive.holding(1, 3, 5);
        Drive.fill(x, 0, 40);
        Check.refused("promise 5: 40 segments in recovery", x, STATE, x::send);
        x.lose(39);
        Check.due("promise 5: the repair with 39", x.send(), 1);
        Check.due("promise 13: the repair with 39", x.startOf(39), 0);
    }

    /** Two streams take the same calls, and one of them between any two every call that is refused. */
    private static void refusedCallsInARun() {
        boolean wasFull = false;
        boolean wroteAll = false;
        int read = 0;
        int again = 0;
        for (int seed = 0; seed < 8; seed++) {
            Random random = new Random(seed);
            SluiceStream plain = new SluiceStream();
            SluiceStream bothered = new SluiceStream();
            for (int i = 0; i < 400; i++) {
                refusedNow(bothered).forEach(ArgumentEdgesTest::refuse);
                Function<SluiceStream, Object> call = anyCall(random, plain, seed % 2 == 0);
                String where = "refused calls change nothing, run " + seed + ", call " + i;
                Check.due(where, call.apply(bothered), call.apply(plain));
                Check.due(where, State.of(bothered), State.of(plain));
                wasFull |= plain.segments() == 40;
                wroteAll |= plain.written() == 600;
            }
            read += plain.readPosition();
            again += plain.sentAgain();
        }
        Check.due("the runs got to full lists, to all written, to reads and to repairs",
            wasFull && wroteAll && read > 200 && again > 50, true);
    }

    private static void refuse(Runnable call) {
        boolean refused = false;
        try {
            call.run();
        } catch (IllegalArgumentException | IllegalStateException | IndexOutOfBoundsException e) {
            refused = true;
        }
        Check.due("refused", refused, true);
    }

    private static List<Runnable> refusedNow(SluiceStream x) {
        List<Runnable> calls = new ArrayList<>();
        calls.add(() -> x.write(-1, 1));
        calls.add(() -> x.write(256, 1));
        calls.add(() -> x.write(0, 0));
        calls.add(() -> x.write(0, 101));
        calls.add(() -> x.setLimit(3));
        calls.add(() -> x.setLimit(257));
        calls.add(() -> x.tick(0));
        calls.add(() -> x.tick(101));
        calls.add(() -> x.isMarked(x.written()));
        calls.add(() -> x.blockStart(x.blocks()));
        calls.add(() -> x.blockEnd(-1));
        SEGMENT_CALLS.values().forEach(call -> calls.add(() -> call.applyAsInt(x, x.segments())));
        ACK_CALLS.values().forEach(call -> calls.add(() -> call.applyAsInt(x, x.acks())));
        if (x.written() > 500) {
            calls.add(() -> x.write(0, 100));
        }
        if (x.segments() == 40) {
            calls.add(x::send);
            calls.add(() -> x.duplicate(39));
        }
        return calls;
    }

    /** A call that is not refused, of those that change something. */
    private static Function<SluiceStream, Object> anyCall(Random random, SluiceStream x, boolean doubling) {
        int kind = random.nextInt(16);
        int segment = x.segments() == 0 ? -1 : random.nextInt(Math.min(4, x.segments()));
        int ack = x.acks() == 0 ? -1 : random.nextInt(Math.min(3, x.acks()));
        int more = Math.min(600 - x.written(), 1 + random.nextInt(80));
        if (kind == 0 && more > 0) {
            return y -> y.write(7, more);
        } else if (kind == 1) {
            return y -> y.tick(2);
        } else if ((kind == 2 || doubling && kind < 6) && segment >= 0 && x.segments() < 40) {
            return y -> y.duplicate(segment);
        } else if (kind == 3 && segment >= 0) {
            return y -> y.lose(segment);
        } else if (kind < 7 && segment >= 0) {
            return y -> y.deliver(segment);
        } else if (kind < 10 && ack >= 0) {
            return y -> y.deliverAck(ack);
        } else if (kind < 13 && x.segments() < 40) {
            return SluiceStream::send;
        }
        return SluiceStream::read;
    }
}
