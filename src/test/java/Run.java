import java.lang.reflect.InvocationTargetException;
import java.util.ArrayList;
import java.util.List;
import java.util.NoSuchElementException;

/**
 * A TwinArray whose calls are kept and counted. Nothing is promised behind the 512th call, so a test that goes
 * further is wrong itself; and what an object has become can be looked at on others that were called alike.
 */
final class Run {
    static final int MOST_CALLS = 512;
    static final int NONE = TwinArray.NONE;
    static final String NO_SUCH_ELEMENT = "throws NoSuchElementException";

    private final TwinArray object = new TwinArray();
    private final List<Call> calls = new ArrayList<>();

    /** One call of the face; a boolean counts 1 or 0, a call without an answer 0. */
    interface Call {
        int on(TwinArray x);
    }

    int make(Call call) {
        keep(call);
        return call.on(object);
    }

    /** What a call answers, as a text, also if it throws. */
    String attempt(Call call) {
        keep(call);
        return answer(object, call);
    }

    private void keep(Call call) {
        calls.add(call);
        if (calls.size() == MOST_CALLS + 1) {
            Check.same("the calls of one object", calls.size(), MOST_CALLS);
        }
    }

    /** How many calls are left. */
    int room() {
        return MOST_CALLS - calls.size();
    }

    /** Another object that was called alike. */
    TwinArray again() {
        TwinArray x = new TwinArray();
        for (Call call : calls) {
            answer(x, call);
        }
        return x;
    }

    /** What a call answers, as a text: its number, or the name of what it throws. */
    static String answer(TwinArray x, Call call) {
        try {
            return String.valueOf(call.on(x));
        } catch (NoSuchElementException e) {
            return NO_SUCH_ELEMENT;
        } catch (RuntimeException e) {
            return "throws " + e.getClass().getName();
        }
    }

    /** The same for a call by its name, on any object that has a method like that of the face. */
    static String answer(Object on, String name, Object... arguments) {
        Class<?>[] types = new Class<?>[arguments.length];
        for (int i = 0; i < types.length; i++) {
            types[i] = arguments[i] instanceof Boolean ? boolean.class : int.class;
        }
        try {
            return String.valueOf(on.getClass().getDeclaredMethod(name, types).invoke(on, arguments));
        } catch (InvocationTargetException e) {
            boolean isPromised = e.getCause() instanceof NoSuchElementException;
            return isPromised ? NO_SUCH_ELEMENT : "throws " + e.getCause().getClass().getName();
        } catch (ReflectiveOperationException e) {
            throw new IllegalStateException(name, e);
        }
    }

    static int bit(boolean b) {
        return b ? 1 : 0;
    }

    int write(int controller, int block, int value) {
        return make(x -> x.write(controller, block, value));
    }

    int read(int controller, int block) {
        return make(x -> x.read(controller, block));
    }

    int ticket(int t) {
        return make(x -> x.ticket(t));
    }

    int value(int t) {
        return make(x -> x.value(t));
    }

    int step(int controller) {
        return make(x -> x.step(controller));
    }

    int arrive(int controller) {
        return make(x -> x.arrive(controller));
    }

    void cut(boolean on) {
        make(x -> {
            x.cut(on);
            return 0;
        });
    }

    boolean crash(int controller) {
        return make(x -> bit(x.crash(controller))) == 1;
    }

    boolean restart(int controller) {
        return make(x -> bit(x.restart(controller))) == 1;
    }

    boolean pair() {
        return make(x -> bit(x.pair())) == 1;
    }

    boolean takeOver(int controller) {
        return make(x -> bit(x.takeOver(controller))) == 1;
    }

    boolean moveOwner(int volume) {
        return make(x -> bit(x.moveOwner(volume))) == 1;
    }

    boolean flush(int controller) {
        return make(x -> bit(x.flush(controller))) == 1;
    }

    boolean lose(int disk) {
        return make(x -> bit(x.lose(disk))) == 1;
    }

    boolean replace(int disk) {
        return make(x -> bit(x.replace(disk))) == 1;
    }

    int rebuild(int disk) {
        return make(x -> x.rebuild(disk));
    }

    int late(int k) {
        return make(x -> x.late(k));
    }

    int lates() {
        return make(x -> x.lates());
    }

    int parityGood(int stripe) {
        return make(x -> x.parityGood(stripe));
    }

    int onDisk(int disk, int stripe) {
        return make(x -> x.onDisk(disk, stripe));
    }

    int keyOf(int disk) {
        return make(x -> x.keyOf(disk));
    }

    int state(int controller, int what) {
        return make(x -> x.state(controller, what));
    }

    int dirty(int controller) {
        return state(controller, 0);
    }

    int mirrored(int controller) {
        return state(controller, 1);
    }

    int messages(int controller) {
        return state(controller, 2);
    }

    int missedBeats(int controller) {
        return state(controller, 3);
    }

    int key(int controller) {
        return state(controller, 4);
    }

    boolean isUp(int controller) {
        return state(controller, 5) == 1;
    }

    boolean isPaired(int controller) {
        return state(controller, 6) == 1;
    }

    boolean takesOver(int controller) {
        return state(controller, 7) == 1;
    }

    boolean isToFlush(int controller) {
        return state(controller, 8) == 1;
    }

    int destages(int controller) {
        return state(controller, 9);
    }

    int owns(int controller) {
        return state(controller, 10);
    }

    int notes(int controller) {
        return state(controller, 11);
    }

    int remarks(int controller) {
        return state(controller, 12);
    }

    int repairs(int controller) {
        return state(controller, 13);
    }
}
