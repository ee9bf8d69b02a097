import java.lang.reflect.Constructor;
import java.lang.reflect.Field;
import java.lang.reflect.Method;
import java.lang.reflect.Modifier;
import java.util.Arrays;
import java.util.List;
import java.util.TreeSet;
import java.util.stream.Collectors;

/** The class has the document's face and no other, and a new object is as promise 1 says. */
public final class FaceTest {
    private static final String INDEX = " throws IndexOutOfBoundsException";
    private static final String ARGUMENT = " throws IllegalArgumentException";
    private static final String STATE = " throws IllegalStateException";

    private static final List<String> FACE = List.of(
        "int write(int, int)" + ARGUMENT + ", IllegalStateException", "int read()",
        "int setLimit(int)" + ARGUMENT, "int send()" + STATE, "int tick(int)" + ARGUMENT,
        "int deliver(int)" + INDEX, "int lose(int)" + INDEX,
        "int duplicate(int)" + INDEX + ", IllegalStateException",
        "int deliverAck(int)" + INDEX, "int loseAck(int)" + INDEX,
        "int segments()", "int startOf(int)" + INDEX, "int endOf(int)" + INDEX,
        "int acks()", "int ackNumber(int)" + INDEX, "int ackWindow(int)" + INDEX,
        "int ackBlocks(int)" + INDEX, "int ackBlock(int, int)" + INDEX,
        "int time()", "int acknowledged()", "int next()", "int highest()", "int written()",
        "int edge()", "int inFlight()", "boolean isMarked(int)" + INDEX,
        "int congestionWindow()", "int threshold()", "int duplicates()", "int recoveryEnd()",
        "int timeout()", "int timerEnd()", "int roundTrip()", "int variation()", "int timedEnd()",
        "int sent()", "int sentAgain()", "int inOrder()", "int readPosition()", "int window()",
        "int blocks()", "int blockStart(int)" + INDEX, "int blockEnd(int)" + INDEX);

    public static void main(String[] args) {
        face();
        newObject();
        Check.close(FaceTest.class);
    }

    private static void face() {
        Check.due("face: public final class", SluiceStream.class.getModifiers(), Modifier.PUBLIC | Modifier.FINAL);
        TreeSet<String> methods = new TreeSet<>();
        for (Method m : SluiceStream.class.getDeclaredMethods()) {
            if (!Modifier.isPrivate(m.getModifiers()) && !m.isSynthetic()) {
                Check.due("face: public, not static " + m.getName(), m.getModifiers(), Modifier.PUBLIC);
                methods.add(m.getReturnType() + " " + m.getName() + "(" + names(m.getParameterTypes()) + ")"
                    + (m.getExceptionTypes().length == 0 ? "" : " throws " + names(m.getExceptionTypes())));
            }
        }
        Check.due("face: methods", methods, new TreeSet<>(FACE));
        Constructor<?>[] made = SluiceStream.class.getDeclaredConstructors();
        Check.due("face: constructors", made.length, 1);
        Check.due("face: constructor", made[0].getModifiers() + "(" + names(made[0].getParameterTypes()) + ")", "1()");
        for (Field f : SluiceStream.class.getDeclaredFields()) {
            boolean isConstant = f.getName().equals("NONE");
            Check.due("face: public is " + f.getName(), Modifier.isPublic(f.getModifiers()), isConstant);
            Check.due("face: private is " + f.getName(), Modifier.isPrivate(f.getModifiers()), !isConstant);
        }
        for (Class<?> c : SluiceStream.class.getDeclaredClasses()) {
            Check.due("face: static is " + c, Modifier.isStatic(c.getModifiers()), true);
            Check.due("face: public is " + c, Modifier.isPublic(c.getModifiers()), false);
        }
    }

    private static String names(Class<?>[] types) {
        return Arrays.stream(types).map(Class::getSimpleName).collect(Collectors.joining(", "));
    }

    private static void newObject() {
        Check.due("the constant NONE", SluiceStream.NONE, -1);
        SluiceStream x = new SluiceStream();
        Check.due("promise 1, 20: time", x.time(), 0);
        Check.due("promise 1, 21: acknowledged", x.acknowledged(), 0);
        Check.due("promise 1, 22: next", x.next(), 0);
        Check.due("promise 1, 23: highest", x.highest(), 0);
        Check.due("promise 1, 24: written", x.written(), 0);
        Check.due("promise 1, 25: edge", x.edge(), 32);
        Check.due("promise 1, 26: inFlight", x.inFlight(), 0);
        Check.due("promise 1, 28: congestionWindow", x.congestionWindow(), 8);
        Check.due("promise 1, 29: threshold", x.threshold(), 64);
        Check.due("promise 1, 30: duplicates", x.duplicates(), 0);
        Check.due("promise 1, 31: recoveryEnd", x.recoveryEnd(), -1);
        Check.due("promise 1, 32: timeout", x.timeout(), 8);
        Check.due("promise 1, 33: timerEnd", x.timerEnd(), -1);
        Check.due("promise 1, 34: roundTrip", x.roundTrip(), 0);
        Check.due("promise 1, 35: variation", x.variation(), 0);
        Check.due("promise 1, 36: timedEnd", x.timedEnd(), -1);
        Check.due("promise 1, 37: sent", x.sent(), 0);
        Check.due("promise 1, 38: sentAgain", x.sentAgain(), 0);
        Check.due("promise 1, 39: inOrder", x.inOrder(), 0);
        Check.due("promise 1, 40: readPosition", x.readPosition(), 0);
        Check.due("promise 1, 41: window", x.window(), 32);
        Check.due("promise 1, 42: blocks", x.blocks(), 0);
        Check.due("promise 1, 12: segments", x.segments(), 0);
        Check.due("promise 1, 15: acks", x.acks(), 0);
        Check.due("promise 1, 4: limit", x.setLimit(256), 256);
        SluiceStream other = new SluiceStream();
        other.write(7, 10);
        other.send();
        Check.due("promise 1: objects are apart", State.of(x), State.of(new SluiceStream()));
    }
}
