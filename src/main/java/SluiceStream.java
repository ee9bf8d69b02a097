/**
 * A reliable stream of bytes in one direction, over a network that the caller drives. The sender
 * and the receiver never touch one another: whatever goes between them lies in one of two lists
 * until the caller delivers it or loses it.
 */
public final class SluiceStream {
    public static final int NONE = -1;

    private static final int MOST_BYTES = 600;
    private static final int MOST_BYTES_A_WRITE = 100;
    private static final int BYTE_VALUES = 256;
    private static final int MOST_TICKS = 100;
    private static final int SEGMENT_BYTES = 4;
    private static final int RECEIVER_ROOM = 32;
    private static final int WINDOW_WORTH_TELLING = 4;
    private static final int LIST_PLACES = 40;
    private static final int MOST_ACK_BLOCKS = 3;

    private static final int LEAST_LIMIT = 4;
    private static final int MOST_LIMIT = 256;
    private static final int FIRST_CONGESTION = 8;
    private static final int MOST_CONGESTION = 256;
    private static final int CONGESTION_AFTER_TIMEOUT = 4;
    private static final int CONGESTION_STEP = 4;
    private static final int CONGESTION_SHARE = 16;
    private static final int FIRST_THRESHOLD = 64;
    private static final int LEAST_THRESHOLD = 8;
    private static final int DUPLICATES_OF_A_LOSS = 3;
    private static final int FIRST_TIMEOUT = 8;
    private static final int LEAST_TIMEOUT = 2;
    private static final int MOST_TIMEOUT = 64;

    // The columns of a row in the list of segments.
    private static final int START = 0;
    private static final int END = 1;
    private static final int SEGMENT_COLUMNS = 2;

    // The columns of a row in the list of acknowledgements; each block takes two, start and end.
    private static final int NUMBER = 0;
    private static final int WINDOW = 1;
    private static final int BLOCK_COUNT = 2;
    private static final int FIRST_BLOCK = 3;
    private static final int ACK_COLUMNS = FIRST_BLOCK + 2 * MOST_ACK_BLOCKS;

    // A byte never changes once it is written, so a segment carries positions alone and the
    // receiver's bytes are looked up here.
    private final int[] values = new int[MOST_BYTES];
    private final Sender sender = new Sender();
    private final Receiver receiver = new Receiver();
    private final Rows segmentList = new Rows(SEGMENT_COLUMNS, new int[LIST_PLACES * SEGMENT_COLUMNS]);
    private final Rows ackList = new Rows(ACK_COLUMNS, new int[LIST_PLACES * ACK_COLUMNS]);

    public SluiceStream() {
    }

    // ---- the application

    public int write(int first, int count) throws IllegalArgumentException, IllegalStateException {
        if (first < 0 || first >= BYTE_VALUES || count < 1 || count > MOST_BYTES_A_WRITE) {
            throw new IllegalArgumentException();
        }
        if (sender.writtenBytes + count > MOST_BYTES) {
            throw new IllegalStateException();
        }
        for (int i = 0; i < count; i++) {
            int position = sender.writtenBytes + i;
            if (position >= 0 && position < values.length) {
                values[position] = (first + i) % BYTE_VALUES;
            }
        }
        sender.writtenBytes += count;
        return sender.writtenBytes;
    }

    public int read() {
        int position = receiver.readAt;
        if (position >= receiver.firstMissing || position < 0 || position >= values.length) {
            return NONE;
        }
        if (receiver.passByte()) {
            receiver.makeAck(ackList);
        }
        return values[position];
    }

    public int setLimit(int bytes) throws IllegalArgumentException {
        if (bytes < LEAST_LIMIT || bytes > MOST_LIMIT) {
            throw new IllegalArgumentException();
        }
        int before = sender.limit;
        sender.limit = bytes;
        return before;
    }

    // ---- the sender acts

    public int send() throws IllegalStateException {
        if (segmentList.isFull()) {
            throw new IllegalStateException();
        }
        return sender.sendInto(segmentList);
    }

    public int tick(int ticks) throws IllegalArgumentException {
        if (ticks < 1 || ticks > MOST_TICKS) {
            throw new IllegalArgumentException();
        }
        return sender.passTicks(ticks);
    }

    // ---- the network

    public int deliver(int place) throws IndexOutOfBoundsException {
        if (!segmentList.holds(place)) {
            throw new IndexOutOfBoundsException();
        }
        int brought = receiver.takeBytes(segmentList.cell(place, START), segmentList.cell(place, END));
        segmentList.remove(place);
        receiver.makeAck(ackList);
        return brought;
    }

    public int lose(int place) throws IndexOutOfBoundsException {
        if (!segmentList.holds(place)) {
            throw new IndexOutOfBoundsException();
        }
        int start = segmentList.cell(place, START);
        segmentList.remove(place);
        return start;
    }

    public int duplicate(int place) throws IndexOutOfBoundsException, IllegalStateException {
        if (!segmentList.holds(place)) {
            throw new IndexOutOfBoundsException();
        }
        if (segmentList.isFull()) {
            throw new IllegalStateException();
        }
        int copy = segmentList.addRow();
        segmentList.setCell(copy, START, segmentList.cell(place, START));
        segmentList.setCell(copy, END, segmentList.cell(place, END));
        return segmentList.size;
    }

    public int deliverAck(int place) throws IndexOutOfBoundsException {
        if (!ackList.holds(place)) {
            throw new IndexOutOfBoundsException();
        }
        int grown = sender.takeAck(ackList, place);
        ackList.remove(place);
        return grown;
    }

    public int loseAck(int place) throws IndexOutOfBoundsException {
        if (!ackList.holds(place)) {
            throw new IndexOutOfBoundsException();
        }
        int number = ackList.cell(place, NUMBER);
        ackList.remove(place);
        return number;
    }

    public int segments() {
        return segmentList.size;
    }

    public int startOf(int place) throws IndexOutOfBoundsException {
        if (!segmentList.holds(place)) {
            throw new IndexOutOfBoundsException();
        }
        return segmentList.cell(place, START);
    }

    public int endOf(int place) throws IndexOutOfBoundsException {
        if (!segmentList.holds(place)) {
            throw new IndexOutOfBoundsException();
        }
        return segmentList.cell(place, END);
    }

    public int acks() {
        return ackList.size;
    }

    public int ackNumber(int place) throws IndexOutOfBoundsException {
        if (!ackList.holds(place)) {
            throw new IndexOutOfBoundsException();
        }
        return ackList.cell(place, NUMBER);
    }

    public int ackWindow(int place) throws IndexOutOfBoundsException {
        if (!ackList.holds(place)) {
            throw new IndexOutOfBoundsException();
        }
        return ackList.cell(place, WINDOW);
    }

    public int ackBlocks(int place) throws IndexOutOfBoundsException {
        if (!ackList.holds(place)) {
            throw new IndexOutOfBoundsException();
        }
        return ackList.cell(place, BLOCK_COUNT);
    }

    public int ackBlock(int place, int block) throws IndexOutOfBoundsException {
        if (!ackList.holds(place) || block < 0 || block >= ackList.cell(place, BLOCK_COUNT)) {
            throw new IndexOutOfBoundsException();
        }
        return ackList.cell(place, FIRST_BLOCK + 2 * block);
    }

    // ---- the sender as it is

    public int time() {
        return sender.timer.now;
    }

    public int acknowledged() {
        return sender.acked;
    }

    public int next() {
        return sender.toSend;
    }

    public int highest() {
        return sender.sentBelow;
    }

    public int written() {
        return sender.writtenBytes;
    }

    public int edge() {
        return sender.edgeAt;
    }

    public int inFlight() {
        return sender.countFlying();
    }

    public boolean isMarked(int position) throws IndexOutOfBoundsException {
        if (position < 0 || position >= sender.writtenBytes) {
            throw new IndexOutOfBoundsException();
        }
        return sender.marks.at(position) != 0;
    }

    public int congestionWindow() {
        return sender.congestion;
    }

    public int threshold() {
        return sender.slowFrom;
    }

    public int duplicates() {
        return sender.duplicateCount;
    }

    public int recoveryEnd() {
        return sender.recoversTo;
    }

    public int timeout() {
        return sender.timer.span;
    }

    public int timerEnd() {
        return sender.timer.endsAt;
    }

    public int roundTrip() {
        return sender.timer.smoothed;
    }

    public int variation() {
        return sender.timer.deviation;
    }

    public int timedEnd() {
        return sender.timer.timedTo;
    }

    public int sent() {
        return sender.sentCount;
    }

    public int sentAgain() {
        return sender.sentAgainCount;
    }

    // ---- the receiver as it is

    public int inOrder() {
        return receiver.firstMissing;
    }

    public int readPosition() {
        return receiver.readAt;
    }

    public int window() {
        return receiver.room();
    }

    public int blocks() {
        return receiver.countBlocks();
    }

    public int blockStart(int block) throws IndexOutOfBoundsException {
        if (block < 0 || block >= receiver.countBlocks()) {
            throw new IndexOutOfBoundsException();
        }
        return receiver.startOfBlock(block);
    }

    public int blockEnd(int block) throws IndexOutOfBoundsException {
        if (block < 0 || block >= receiver.countBlocks()) {
            throw new IndexOutOfBoundsException();
        }
        return receiver.endOfRun(receiver.startOfBlock(block));
    }

    /** The sender: what it has sent, what it knows of the receiver, and how much it dares to send. */
    private static final class Sender {
        final Positions marks = new Positions();
        final Timer timer = new Timer();
        int acked = 0;
        int toSend = 0;
        int sentBelow = 0;
        int writtenBytes = 0;
        int edgeAt = RECEIVER_ROOM;
        int congestion = FIRST_CONGESTION;
        int slowFrom = FIRST_THRESHOLD;
        int limit = MOST_LIMIT;
        int duplicateCount = 0;
        int recoversTo = NONE;
        int repairsFrom = 0;
        int sentCount = 0;
        int sentAgainCount = 0;

        int countFlying() {
            return marks.countEmpty(acked, toSend);
        }

        /** Puts the segment that is due at the end of the list and answers its bytes, 0 for none. */
        int sendInto(Rows list) {
            int start = startOfRepair();
            int end;
            if (start != NONE) {
                end = endOfRun(start, toSend);
                repairsFrom = end;
            } else {
                toSend = marks.firstEmpty(toSend, writtenBytes);
                start = toSend;
                end = endOfFresh();
                toSend = end;
            }
            if (end > start) {
                noteSent(start, end);
                int place = list.addRow();
                list.setCell(place, START, start);
                list.setCell(place, END, end);
            }
            return end - start;
        }

        /** A hole that the marks show to be lost, or the first byte that is missing; else NONE. */
        private int startOfRepair() {
            if (recoversTo == NONE) {
                return NONE;
            }
            int hole = marks.firstEmpty(Math.max(acked, repairsFrom), toSend);
            if (hole >= toSend) {
                return NONE;
            }
            boolean isBelowMark = marks.firstFilled(hole, sentBelow) < sentBelow;
            return hole == acked || isBelowMark ? hole : NONE;
        }

        /** Where a segment from here ends that reaches to a bound or to a mark at the latest. */
        private int endOfRun(int start, int bound) {
            return marks.firstFilled(start, Math.min(start + SEGMENT_BYTES, bound));
        }

        /** Where a segment from N ends; N itself if none may be sent. */
        private int endOfFresh() {
            if (toSend >= writtenBytes) {
                return toSend;
            }
            int flying = countFlying();
            if (toSend >= edgeAt) {
                return flying == 0 ? toSend + 1 : toSend;
            }
            int end = endOfRun(toSend, Math.min(writtenBytes, edgeAt));
            boolean fits = flying + end - toSend <= Math.min(congestion, limit);
            return flying == 0 || fits ? end : toSend;
        }

        private void noteSent(int start, int end) {
            sentCount++;
            // An acknowledgement of bytes that went out twice does not tell which copy it is for,
            // so only new bytes are timed.
            if (start < sentBelow) {
                sentAgainCount++;
            } else {
                timer.timeSegment(end);
            }
            sentBelow = Math.max(sentBelow, toSend);
            timer.startIfStopped();
        }

        int passTicks(int ticks) {
            int ended = 0;
            for (int i = 0; i < ticks; i++) {
                if (timer.passTick()) {
                    startOver();
                    ended++;
                }
            }
            return ended;
        }

        /** What the end of the timer asks for: all that is not acknowledged is sent once more. */
        private void startOver() {
            slowFrom = halfOfFlying();
            congestion = CONGESTION_AFTER_TIMEOUT;
            timer.backOff();
            marks.empty(acked, sentBelow);
            toSend = acked;
            recoversTo = NONE;
            duplicateCount = 0;
        }

        private int halfOfFlying() {
            return Math.max(LEAST_THRESHOLD, countFlying() / 2);
        }

        /** Takes an acknowledgement from the list and answers by how much A grows. */
        int takeAck(Rows list, int place) {
            int number = list.cell(place, NUMBER);
            if (number < acked) {
                return 0;
            }
            int edgeTold = number + list.cell(place, WINDOW);
            boolean edgeMoves = edgeTold > edgeAt;
            edgeAt = Math.max(edgeAt, edgeTold);
            int grown = number - acked;
            if (grown > 0) {
                advanceTo(number);
            }
            markBlocks(list, place);
            if (grown == 0 && acked < toSend && !edgeMoves) {
                countDuplicate();
            }
            return grown;
        }

        private void advanceTo(int number) {
            timer.endTiming(number);
            marks.empty(acked, number);
            acked = number;
            toSend = Math.max(toSend, acked);
            duplicateCount = 0;
            if (recoversTo == NONE) {
                growCongestion();
            } else if (acked >= recoversTo) {
                recoversTo = NONE;
                congestion = slowFrom;
            }
            if (acked == toSend) {
                timer.stop();
            } else {
                timer.startAnew();
            }
        }

        private void growCongestion() {
            int step = 1;
            if (congestion < slowFrom) {
                step = CONGESTION_STEP;
            } else if (congestion > 0) {
                step = Math.max(1, CONGESTION_SHARE / congestion);
            }
            congestion = Math.min(MOST_CONGESTION, congestion + step);
        }

        private void markBlocks(Rows list, int place) {
            int count = Math.min(MOST_ACK_BLOCKS, list.cell(place, BLOCK_COUNT));
            for (int i = 0; i < count; i++) {
                int start = list.cell(place, FIRST_BLOCK + 2 * i);
                int end = list.cell(place, FIRST_BLOCK + 2 * i + 1);
                marks.fillEmpty(Math.max(acked, start), end, 1);
            }
        }

        private void countDuplicate() {
            duplicateCount++;
            if (duplicateCount == DUPLICATES_OF_A_LOSS && recoversTo == NONE) {
                slowFrom = halfOfFlying();
                congestion = slowFrom;
                recoversTo = toSend;
                repairsFrom = acked;
                timer.forgetTiming();
            }
        }
    }

    /** The clock, the timer that it drives, and the round trips that tell how long the timer is. */
    private static final class Timer {
        int now = 0;
        int span = FIRST_TIMEOUT;
        int endsAt = NONE;
        int timedTo = NONE;
        int smoothed = 0;
        int deviation = 0;
        private int timedSince = 0;
        // A first round trip may be 0, so S alone does not tell whether there was one.
        private boolean sampled = false;

        /** Lets the clock go on by a tick and tells whether that is when the timer ends. */
        boolean passTick() {
            now++;
            return endsAt != NONE && now == endsAt;
        }

        void startAnew() {
            endsAt = now + span;
        }

        void startIfStopped() {
            if (endsAt == NONE) {
                startAnew();
            }
        }

        void stop() {
            endsAt = NONE;
        }

        void backOff() {
            span = Math.min(MOST_TIMEOUT, 2 * span);
            forgetTiming();
            stop();
        }

        void timeSegment(int end) {
            if (timedTo == NONE) {
                timedTo = end;
                timedSince = now;
            }
        }

        void forgetTiming() {
            timedTo = NONE;
        }

        void endTiming(int number) {
            if (timedTo != NONE && number >= timedTo) {
                takeSample(now - timedSince);
                forgetTiming();
            }
        }

        private void takeSample(int sample) {
            if (sampled) {
                int error = sample - smoothed / 8;
                smoothed += error;
                deviation += Math.abs(error) - deviation / 4;
            } else {
                smoothed = 8 * sample;
                deviation = 2 * sample;
                sampled = true;
            }
            int wanted = smoothed / 8 + Math.max(deviation, 1);
            span = Math.min(MOST_TIMEOUT, Math.max(LEAST_TIMEOUT, wanted));
        }
    }

    /** The receiver: the bytes that it has, and the acknowledgements that it makes of them. */
    private static final class Receiver {
        // At each position the delivery that brought its byte, counted from 1: the blocks of an
        // acknowledgement are in the order of those.
        private final Positions held = new Positions();
        private int deliveries = 0;
        int firstMissing = 0;
        int readAt = 0;

        int room() {
            return readAt + RECEIVER_ROOM - firstMissing;
        }

        int takeBytes(int start, int end) {
            deliveries++;
            int brought = held.fillEmpty(start, Math.min(end, readAt + RECEIVER_ROOM), deliveries);
            firstMissing = held.firstEmpty(firstMissing, MOST_BYTES);
            return brought;
        }

        /** Goes on to the next byte to be read and tells whether that makes room worth telling of. */
        boolean passByte() {
            int before = room();
            readAt++;
            return before < WINDOW_WORTH_TELLING && room() >= WINDOW_WORTH_TELLING;
        }

        void makeAck(Rows acks) {
            if (acks.isFull()) {
                acks.remove(0);
            }
            int place = acks.addRow();
            acks.setCell(place, NUMBER, firstMissing);
            acks.setCell(place, WINDOW, room());
            acks.setCell(place, BLOCK_COUNT, tellBlocks(acks, place));
        }

        /** Writes the newest blocks into an acknowledgement and answers how many there are. */
        private int tellBlocks(Rows acks, int place) {
            int told = 0;
            int lastTold = deliveries + 1;
            for (int i = 0; i < MOST_ACK_BLOCKS; i++) {
                int start = newestBlockBefore(lastTold);
                if (start != NONE) {
                    int end = endOfRun(start);
                    acks.setCell(place, FIRST_BLOCK + 2 * i, start);
                    acks.setCell(place, FIRST_BLOCK + 2 * i + 1, end);
                    lastTold = held.greatest(start, end);
                    told++;
                }
            }
            return told;
        }

        /** The block whose newest byte is the newest one of all that came before a delivery. */
        private int newestBlockBefore(int delivery) {
            int newest = 0;
            int found = NONE;
            int start = blockFrom(firstMissing);
            for (int i = 0; i < RECEIVER_ROOM && start != NONE; i++) {
                int end = endOfRun(start);
                int came = held.greatest(start, end);
                if (came > newest && came < delivery) {
                    newest = came;
                    found = start;
                }
                start = blockFrom(end);
            }
            return found;
        }

        int countBlocks() {
            int count = 0;
            int start = blockFrom(firstMissing);
            for (int i = 0; i < RECEIVER_ROOM && start != NONE; i++) {
                count++;
                start = blockFrom(endOfRun(start));
            }
            return count;
        }

        int startOfBlock(int block) {
            int start = blockFrom(firstMissing);
            for (int i = 0; i < block && start != NONE; i++) {
                start = blockFrom(endOfRun(start));
            }
            return start;
        }

        int endOfRun(int start) {
            return held.firstEmpty(start, MOST_BYTES);
        }

        private int blockFrom(int position) {
            int reach = readAt + RECEIVER_ROOM;
            int start = held.firstFilled(position, reach);
            return start < reach ? start : NONE;
        }
    }

    /** A number at each position: 0 where there is nothing, above 0 where there is something. */
    private static final class Positions {
        private final int[] numbers = new int[MOST_BYTES];

        int at(int position) {
            return position >= 0 && position < numbers.length ? numbers[position] : 0;
        }

        /** Puts a number at those positions that have none, and answers how many they were. */
        int fillEmpty(int from, int to, int number) {
            int filled = 0;
            for (int p = Math.max(from, 0); p < to && p < numbers.length; p++) {
                if (numbers[p] == 0) {
                    numbers[p] = number;
                    filled++;
                }
            }
            return filled;
        }

        void empty(int from, int to) {
            for (int p = Math.max(from, 0); p < to && p < numbers.length; p++) {
                numbers[p] = 0;
            }
        }

        int countEmpty(int from, int to) {
            int count = 0;
            for (int p = from; p < to; p++) {
                if (at(p) == 0) {
                    count++;
                }
            }
            return count;
        }

        /** The first position that has nothing, to if all have something. */
        int firstEmpty(int from, int to) {
            int p = from;
            while (p < to && at(p) != 0) {
                p++;
            }
            return p;
        }

        /** The first position that has something, to if none has. */
        int firstFilled(int from, int to) {
            int p = from;
            while (p < to && at(p) == 0) {
                p++;
            }
            return p;
        }

        int greatest(int from, int to) {
            int most = 0;
            for (int p = from; p < to; p++) {
                most = Math.max(most, at(p));
            }
            return most;
        }
    }

    /** One of the network's lists: its rows of numbers, made once, in the order they came. */
    private static final class Rows {
        private final int columns;
        private final int[] cells;
        int size = 0;

        Rows(int columns, int[] cells) {
            this.columns = columns;
            this.cells = cells;
        }

        boolean holds(int place) {
            return place >= 0 && place < size;
        }

        boolean isFull() {
            return size >= LIST_PLACES;
        }

        int cell(int place, int column) {
            int index = place * columns + column;
            return index >= 0 && index < cells.length ? cells[index] : NONE;
        }

        void setCell(int place, int column, int number) {
            int index = place * columns + column;
            if (index >= 0 && index < cells.length) {
                cells[index] = number;
            }
        }

        /** Adds a row at the end, whose cells are still to be set, and answers its place. */
        int addRow() {
            if (size < LIST_PLACES) {
                size++;
            }
            return size - 1;
        }

        void remove(int place) {
            if (!holds(place)) {
                return;
            }
            size--;
            for (int i = place * columns; i < size * columns && i >= 0 && i + columns < cells.length; i++) {
                cells[i] = cells[i + columns];
            }
        }
    }
}
