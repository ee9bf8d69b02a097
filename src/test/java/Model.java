import java.util.ArrayList;
import java.util.Comparator;
import java.util.List;
import java.util.TreeMap;
import java.util.TreeSet;
import java.util.stream.Collectors;
import java.util.stream.IntStream;

/**
 * The document once more, sentence by sentence, with sets and lists of the library: slow, and made
 * another way than the class, so that the two are unlikely to share a fault. A call that is to
 * throw answers its exception's class.
 */
final class Model {
    private record Segment(int start, int end) {
    }

    private record Block(int start, int end, int cameLast) {
    }

    private record Ack(int number, int window, List<Block> told) {
    }

    private final List<Integer> bytes = new ArrayList<>();
    private final List<Segment> segments = new ArrayList<>();
    private final List<Ack> acks = new ArrayList<>();

    private int time;
    private int a;
    private int n;
    private int h;
    private int edge = 32;
    private final TreeSet<Integer> marks = new TreeSet<>();
    private int c = 8;
    private int t = 64;
    private int limit = 256;
    private int duplicates;
    private boolean recovery;
    private int r;
    private int x;
    private int timeout = 8;
    private int timerEnd = -1;
    private int timedEnd = -1;
    private int timedAt;
    private boolean hadSample;
    private int s;
    private int v;
    private int sent;
    private int sentAgain;

    private final TreeMap<Integer, Integer> came = new TreeMap<>();
    private int deliveries;
    private int readPosition;

    // ---- the calls

    Object write(int first, int count) {
        if (first < 0 || first > 255 || count < 1 || count > 100) {
            return IllegalArgumentException.class;
        }
        if (bytes.size() + count > 600) {
            return IllegalStateException.class;
        }
        IntStream.range(0, count).forEach(i -> bytes.add((first + i) % 256));
        return bytes.size();
    }

    Object read() {
        if (readPosition == b()) {
            return -1;
        }
        boolean less = window() < 4;
        int answer = bytes.get(readPosition++);
        if (less && window() >= 4) {
            makeAck();
        }
        return answer;
    }

    Object setLimit(int wanted) {
        if (wanted < 4 || wanted > 256) {
            return IllegalArgumentException.class;
        }
        int before = limit;
        limit = wanted;
        return before;
    }

    Object send() {
        if (segments.size() == 40) {
            return IllegalStateException.class;
        }
        if (recovery) {
            int p = Math.max(a, x);
            while (p < n && marks.contains(p)) {
                p++;
            }
            if (p < n && (p == a || !marks.isEmpty() && p < marks.last())) {
                x = end(p, n);
                return emit(p, x);
            }
        }
        while (n < bytes.size() && marks.contains(n)) {
            n++;
        }
        if (n == bytes.size()) {
            return 0;
        }
        int start = n;
        if (n < edge) {
            int end = end(n, Math.min(bytes.size(), edge));
            if (f() != 0 && f() + (end - n) > Math.min(c, limit)) {
                return 0;
            }
            n = end;
        } else {
            if (f() != 0) {
                return 0;
            }
            n = n + 1;
        }
        return emit(start, n);
    }

    Object tick(int ticks) {
        if (ticks < 1 || ticks > 100) {
            return IllegalArgumentException.class;
        }
        int ended = 0;
        for (int i = 0; i < ticks; i++) {
            time++;
            if (time == timerEnd) {
                ended++;
                t = Math.max(8, f() / 2);
                c = 4;
                timeout = Math.min(64, timeout * 2);
                marks.clear();
                n = a;
                recovery = false;
                duplicates = 0;
                timedEnd = -1;
                timerEnd = -1;
            }
        }
        return ended;
    }

    Object deliver(int place) {
        if (place < 0 || place >= segments.size()) {
            return IndexOutOfBoundsException.class;
        }
        Segment segment = segments.remove(place);
        deliveries++;
        int brought = 0;
        for (int p = segment.start(); p < segment.end(); p++) {
            if (p < readPosition + 32 && !came.containsKey(p)) {
                came.put(p, deliveries);
                brought++;
            }
        }
        makeAck();
        return brought;
    }

    Object lose(int place) {
        if (place < 0 || place >= segments.size()) {
            return IndexOutOfBoundsException.class;
        }
        return segments.remove(place).start();
    }

    Object duplicate(int place) {
        if (place < 0 || place >= segments.size()) {
            return IndexOutOfBoundsException.class;
        }
        if (segments.size() == 40) {
            return IllegalStateException.class;
        }
        segments.add(segments.get(place));
        return segments.size();
    }

    Object deliverAck(int place) {
        if (place < 0 || place >= acks.size()) {
            return IndexOutOfBoundsException.class;
        }
        Ack ack = acks.remove(place);
        if (ack.number() < a) {
            return 0;
        }
        int aBefore = a;
        boolean edgeChanged = ack.number() + ack.window() > edge;
        if (edgeChanged) {
            edge = ack.number() + ack.window();
        }
        if (ack.number() > a) {
            acknowledge(ack.number());
        }
        for (Block block : ack.told()) {
            IntStream.range(block.start(), block.end()).filter(p -> p >= a).forEach(marks::add);
        }
        if (ack.number() == aBefore && a < n && !edgeChanged) {
            duplicates++;
            if (duplicates == 3 && !recovery) {
                recovery = true;
                t = Math.max(8, f() / 2);
                c = t;
                r = n;
                x = a;
                timedEnd = -1;
            }
        }
        return a - aBefore;
    }

    Object loseAck(int place) {
        if (place < 0 || place >= acks.size()) {
            return IndexOutOfBoundsException.class;
        }
        return acks.remove(place).number();
    }

    // ---- what the calls share

    private int f() {
        return (int) IntStream.range(a, n).filter(p -> !marks.contains(p)).count();
    }

    private int end(int start, int latest) {
        int end = start;
        while (end < start + 4 && end < latest && !marks.contains(end)) {
            end++;
        }
        return end;
    }

    private int emit(int start, int end) {
        sent++;
        if (start < h) {
            sentAgain++;
        } else if (timedEnd == -1) {
            timedEnd = end;
            timedAt = time;
        }
        if (n > h) {
            h = n;
        }
        if (timerEnd == -1) {
            timerEnd = time + timeout;
        }
        segments.add(new Segment(start, end));
        return end - start;
    }

    private void acknowledge(int number) {
        if (timedEnd != -1 && number >= timedEnd) {
            sample(time - timedAt);
            timedEnd = -1;
        }
        a = number;
        if (n < a) {
            n = a;
        }
        marks.headSet(a).clear();
        duplicates = 0;
        if (recovery) {
            if (a >= r) {
                recovery = false;
                c = t;
            }
        } else {
            c = Math.min(256, c + (c < t ? 4 : Math.max(1, 16 / c)));
        }
        timerEnd = a == n ? -1 : time + timeout;
    }

    private void sample(int trip) {
        if (hadSample) {
            int d = trip - Math.floorDiv(s, 8);
            s = s + d;
            v = v + Math.abs(d) - Math.floorDiv(v, 4);
        } else {
            hadSample = true;
            s = 8 * trip;
            v = 2 * trip;
        }
        timeout = Math.min(64, Math.max(2, Math.floorDiv(s, 8) + Math.max(v, 1)));
    }

    private int b() {
        int b = 0;
        while (came.containsKey(b)) {
            b++;
        }
        return b;
    }

    private int window() {
        return readPosition + 32 - b();
    }

    private List<Block> blocks() {
        List<Block> blocks = new ArrayList<>();
        int start = -1;
        int last = 0;
        for (int p = b(); p <= 600; p++) {
            if (came.containsKey(p)) {
                start = start < 0 ? p : start;
                last = Math.max(last, came.get(p));
            } else if (start >= 0) {
                blocks.add(new Block(start, p, last));
                start = -1;
                last = 0;
            }
        }
        return blocks;
    }

    private void makeAck() {
        List<Block> newest = blocks();
        newest.sort(Comparator.comparingInt(Block::cameLast).reversed());
        if (acks.size() == 40) {
            acks.remove(0);
        }
        acks.add(new Ack(b(), window(), newest.subList(0, Math.min(3, newest.size()))));
    }

    /** The same text as State makes of a stream. */
    String state() {
        String joined = " blocks " + blocks().stream().map(k -> k.start() + "-" + k.end())
            .collect(Collectors.joining(",", "{", "}"));
        return "A " + a + " N " + n + " H " + h + " W " + bytes.size() + " edge " + edge + " F " + f()
            + " marks " + marks.stream().map(p -> "" + p).collect(Collectors.joining(",", "{", "}"))
            + " C " + c + " T " + t + " duplicates " + duplicates + " R " + (recovery ? r : -1)
            + " sent " + sent + " again " + sentAgain
            + "; time " + time + " timeout " + timeout + " ends " + timerEnd
            + " S " + s + " V " + v + " timed " + timedEnd
            + "; B " + b() + " read " + readPosition + " window " + window() + joined
            + "; " + segments.stream().map(g -> g.start() + "-" + g.end())
                .collect(Collectors.joining(",", "segments {", "}"))
            + "; " + acks.stream().map(k -> k.number() + "+" + k.window() + k.told().stream()
                .map(block -> "" + block.start()).collect(Collectors.joining(" ", "[", "]")))
                .collect(Collectors.joining(",", "acks {", "}"));
    }

    int segmentCount() {
        return segments.size();
    }

    int ackCount() {
        return acks.size();
    }

    /** What is worth meeting in a random run, so that the test can tell that it was met. */
    boolean met(Meeting meeting) {
        return switch (meeting) {
            case RECOVERY -> recovery;
            case RECOVERY_WITH_HOLES -> recovery && marks.size() > 8;
            case MARKS_ABOVE_NEXT -> !marks.isEmpty() && marks.last() > n;
            case MARK_AT_NEXT -> marks.contains(n);
            case PROBE -> n > edge;
            case FULL_SEGMENTS -> segments.size() == 40;
            case FULL_ACKS -> acks.size() == 40;
            case FOUR_BLOCKS -> blocks().size() > 3;
            case NO_WINDOW -> window() == 0;
            case LONGEST_TIMEOUT -> timeout == 64;
            case SMALL_GROWTH -> c >= t && c > 16;
            case THRESHOLD -> t > 8 && t < 64;
            case ALL_WRITTEN -> bytes.size() == 600;
        };
    }

    enum Meeting {
        RECOVERY, RECOVERY_WITH_HOLES, MARKS_ABOVE_NEXT, MARK_AT_NEXT, PROBE, FULL_SEGMENTS, FULL_ACKS,
        FOUR_BLOCKS, NO_WINDOW, LONGEST_TIMEOUT, SMALL_GROWTH, THRESHOLD, ALL_WRITTEN
    }
}
