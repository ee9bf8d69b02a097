import java.util.EnumSet;
import java.util.Random;
import java.util.Set;
import java.util.function.Supplier;

/** Long runs of calls, the same ones at every start, that the class and the model answer alike. */
public final class ModelTest {
    private static final int RUNS = 1500;
    private static final int CALLS = 512;
    private static final int KINDS = 10;
    private static final int WRITE = 0;
    private static final int TICK = 4;
    private static final int LOSE = 6;
    private static final int DUPLICATE = 7;
    private static final int DELIVER_ACK = 8;
    private static final int LOSE_ACK = 9;
    private static final int[] ODD = {-1, 0, 3, 4, 5, 39, 40, 41, 100, 101, 255, 256, 257, Integer.MIN_VALUE, Integer.MAX_VALUE};

    private final Random random;
    private final SluiceStream stream = new SluiceStream();
    private final Model model = new Model();
    private final Set<Model.Meeting> met;
    private final int[] weights = new int[KINDS];
    private final boolean singles;
    private final boolean inPlace;
    private final int longestTick;
    private final StringBuilder calls = new StringBuilder();

    private ModelTest(int seed, Set<Model.Meeting> met) {
        this.met = met;
        random = new Random(seed);
        int[] usual = {8, 20, 1, 40, 4, 30, 6, 5, 30, 5};
        for (int i = 0; i < KINDS; i++) {
            weights[i] = 1 + usual[i] * random.nextInt(10) / 4;
        }
        // Runs of one temper go further into corners than a mean of all of them does.
        singles = random.nextInt(5) == 0;
        inPlace = !singles && random.nextInt(3) > 0;
        // Timeouts while much is under way leave old acknowledgements, and marks behind N.
        boolean hasty = random.nextInt(4) == 0;
        longestTick = hasty ? 8 : random.nextBoolean() ? 3 : 100;
        if (hasty) {
            weights[TICK] += 15;
            weights[LOSE] = 1;
        }
        if (singles) {
            weights[WRITE] += 60;
        }
        if (random.nextInt(8) == 0) {
            weights[DUPLICATE] += 30;
            weights[DELIVER_ACK] = 1;
            weights[LOSE_ACK] = 1;
        }
    }

    public static void main(String[] args) {
        Set<Model.Meeting> met = EnumSet.noneOf(Model.Meeting.class);
        int wrong = 0;
        for (int seed = 0; seed < RUNS && wrong < 3; seed++) {
            String fault = new ModelTest(seed, met).run();
            Check.due("run " + seed, fault, "");
            wrong += fault.isEmpty() ? 0 : 1;
        }
        if (wrong == 0) {
            Check.due("the runs met all that is worth meeting", met, EnumSet.allOf(Model.Meeting.class));
        }
        Check.close(ModelTest.class);
    }

    private String run() {
        for (int i = 0; i < CALLS; i++) {
            if (!step()) {
                return calls + "\n  stream: " + State.of(stream) + "\n  model:  " + model.state();
            }
            for (Model.Meeting meeting : Model.Meeting.values()) {
                if (!met.contains(meeting) && model.met(meeting)) {
                    met.add(meeting);
                }
            }
        }
        return "";
    }

    /** Makes one call and tells whether the two answer it alike and look alike after it. */
    private boolean step() {
        boolean odd = random.nextInt(60) == 0;
        int segment = odd ? odd() : place(model.segmentCount());
        int ack = odd ? odd() : place(model.ackCount());
        switch (kind()) {
            case WRITE: {
                int first = odd ? odd() : random.nextInt(256);
                int count = random.nextInt(60) == 0 ? odd() : singles ? 1 : 1 + random.nextInt(40);
                return same("write(" + first + ", " + count + ")", () -> stream.write(first, count), model.write(first, count));
            }
            case 1:
                return same("read()", stream::read, model.read());
            case 2: {
                int limit = odd ? odd() : random.nextInt(4) == 0 ? 4 + random.nextInt(40) : 256;
                return same("setLimit(" + limit + ")", () -> stream.setLimit(limit), model.setLimit(limit));
            }
            case 3:
                return same("send()", stream::send, model.send());
            case TICK: {
                int ticks = odd ? odd() : 1 + random.nextInt(longestTick);
                return same("tick(" + ticks + ")", () -> stream.tick(ticks), model.tick(ticks));
            }
            case 5:
                return same("deliver(" + segment + ")", () -> stream.deliver(segment), model.deliver(segment));
            case LOSE:
                return same("lose(" + segment + ")", () -> stream.lose(segment), model.lose(segment));
            case DUPLICATE:
                return same("duplicate(" + segment + ")", () -> stream.duplicate(segment), model.duplicate(segment));
            case DELIVER_ACK:
                return same("deliverAck(" + ack + ")", () -> stream.deliverAck(ack), model.deliverAck(ack));
            default:
                return same("loseAck(" + ack + ")", () -> stream.loseAck(ack), model.loseAck(ack));
        }
    }

    private boolean same(String call, Supplier<Object> made, Object due) {
        Object got;
        try {
            got = made.get();
        } catch (RuntimeException e) {
            got = e.getClass();
        }
        calls.append(call).append(" -> ").append(got).append(", due ").append(due).append('\n');
        return got.equals(due) && State.of(stream).equals(model.state());
    }

    private int kind() {
        int all = 0;
        for (int weight : weights) {
            all += weight;
        }
        int drawn = random.nextInt(all);
        for (int i = 0; i < KINDS; i++) {
            drawn -= weights[i];
            if (drawn < 0) {
                return i;
            }
        }
        return 0;
    }

    private int odd() {
        return ODD[random.nextInt(ODD.length)];
    }

    private int place(int size) {
        boolean first = inPlace && random.nextInt(8) > 0;
        return size < 2 || first ? 0 : random.nextInt(size);
    }
}
