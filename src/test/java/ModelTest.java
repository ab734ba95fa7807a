import java.lang.reflect.Method;
import java.lang.reflect.Modifier;
import java.util.ArrayList;
import java.util.Comparator;
import java.util.List;
import java.util.Random;

/**
 * TwinArray beside Model, which says the document once more: the same calls, then the same answers. Each run has its
 * own likings among calls and moves of several calls, so that also the rare states are come to: full rows of messages,
 * tickets and late writes, lost disks, stripes to be repaired, volumes that have moved.
 */
final class ModelTest {
    private static final int RUNS = 6000;
    private static final int CALLS_THAT_LOOK = 82;
    private static final int MOVES = 7;
    private static final int[] LIKINGS = {0, 1, 1, 4, 12};
    private static final int[] WRONG = {-1, 2, 5, 8, 14, 32, 200, Integer.MAX_VALUE, Integer.MIN_VALUE};

    private final Random numbers;
    private final TwinArray object = new TwinArray();
    private final Model model = new Model();
    private final List<String> calls = new ArrayList<>();
    private final int blockBits;
    private int mostCalls = Run.MOST_CALLS;
    private boolean isSame = true;

    private ModelTest(int seed) {
        numbers = new Random(seed);
        // With few blocks, what is written meets more often what is there of the block.
        blockBits = numbers.nextBoolean() ? 31 : 16 | numbers.nextInt(16);
    }

    public static void main(String[] args) {
        List<Method> face = face();
        Check.same("the methods of the face", face.size(), 22);
        for (int run = 0; run < RUNS; run++) {
            ModelTest test = new ModelTest(run);
            test.goOnAtRandom(face);
            test.lookAtAll();
            if (run % 2 == 0) {
                test.lookAtTickets();
            } else {
                test.readAll();
            }
        }
        Check.end();
    }

    /** Sorted, as the order of getDeclaredMethods is free. */
    private static List<Method> face() {
        List<Method> face = new ArrayList<>();
        for (Method method : TwinArray.class.getDeclaredMethods()) {
            if (Modifier.isPublic(method.getModifiers())) {
                face.add(method);
            }
        }
        face.sort(Comparator.comparing(Method::getName));
        return face;
    }

    private void goOnAtRandom(List<Method> face) {
        List<Integer> liked = likings(face);
        boolean hasFavourite = numbers.nextInt(6) == 0;
        int favourite = liked.get(numbers.nextInt(liked.size()));
        int mostInRow = numbers.nextInt(8) == 0 ? 60 : 1 + numbers.nextInt(10);
        mostCalls = 1 + numbers.nextInt(Run.MOST_CALLS - CALLS_THAT_LOOK);
        while (mayGoOn()) {
            boolean asLiked = !hasFavourite || numbers.nextInt(20) == 0;
            int choice = asLiked ? liked.get(numbers.nextInt(liked.size())) : favourite;
            if (choice < face.size()) {
                callInRow(face.get(choice), 1 + numbers.nextInt(mostInRow));
            } else {
                move(choice - face.size());
            }
        }
        mostCalls = Run.MOST_CALLS;
    }

    private List<Integer> likings(List<Method> face) {
        List<Integer> liked = new ArrayList<>();
        boolean withMoves = numbers.nextInt(4) > 0;
        for (int choice = 0; choice < face.size() + (withMoves ? MOVES : 0); choice++) {
            int liking = LIKINGS[numbers.nextInt(LIKINGS.length)];
            if (choice < face.size() && face.get(choice).getName().matches("step|arrive|write")) {
                liking += 5;
            }
            for (int i = 0; i < liking; i++) {
                liked.add(choice);
            }
        }
        return liked;
    }

    private boolean mayGoOn() {
        return isSame && calls.size() < mostCalls;
    }

    private void callInRow(Method method, int times) {
        boolean isAlways = numbers.nextBoolean();
        Object[] arguments = arguments(method);
        for (int i = 0; i < times; i++) {
            call(method.getName(), isAlways ? arguments : arguments(method));
        }
    }

    private Object[] arguments(Method method) {
        Object[] arguments = new Object[method.getParameterCount()];
        for (int i = 0; i < arguments.length; i++) {
            int wrong = WRONG[numbers.nextInt(WRONG.length)];
            arguments[i] = numbers.nextInt(60) == 0 ? wrong : number(method.getName(), i);
        }
        if (method.getName().equals("cut")) {
            arguments[0] = numbers.nextInt(3) == 0;
        }
        return arguments;
    }

    private int number(String method, int argument) {
        boolean isBlock = argument == 1 && method.matches("write|read");
        return isBlock ? someBlock() : numbers.nextInt(countOf(method, argument));
    }

    private int someBlock() {
        return numbers.nextInt(32) & blockBits;
    }

    /** How many numbers an argument may be, from 0 on. */
    private static int countOf(String method, int argument) {
        switch (method) {
            case "write": return argument == 0 ? 2 : 1 << 30;
            case "ticket": case "value": return 100;
            case "onDisk": return argument == 0 ? 5 : 8;
            case "state": return argument == 0 ? 2 : 14;
            case "lose": case "replace": case "rebuild": case "keyOf": return 5;
            case "parityGood": return 8;
            case "late": return 3;
            default: return 2;
        }
    }

    private void move(int which) {
        int controller = numbers.nextInt(2);
        switch (which) {
            case 0:
                deliver(1 + numbers.nextInt(12));
                break;
            case 1:
                takeOver(controller);
                break;
            case 2:
                leaveLateWrite(controller);
                break;
            case 3:
                leaveRemark(controller);
                break;
            case 4:
                destageUnheard(controller);
                call("moveOwner", numbers.nextInt(2));
                break;
            case 5:
                settle();
                call("moveOwner", numbers.nextInt(2));
                break;
            default:
                call("restart", controller);
                settle();
                call("pair");
                break;
        }
    }

    private void deliver(int times) {
        for (int i = 0; i < times; i++) {
            call("arrive", 0);
            call("arrive", 1);
        }
    }

    private void steps(int controller, int times) {
        for (int i = 0; i < times; i++) {
            call("step", controller);
        }
    }

    private void takeOver(int controller) {
        call("takeOver", controller);
        steps(controller, 6);
    }

    private void writeSome(int controller) {
        call("write", controller, someBlock(), numbers.nextInt());
    }

    private void leaveLateWrite(int controller) {
        call("restart", controller);
        takeOver(controller);
        writeSome(controller);
        steps(controller, 2);
        call("crash", controller);
    }

    /** The partner hears of the note, and not of its end. */
    private void leaveRemark(int controller) {
        writeSome(controller);
        call("flush", controller);
        steps(controller, 1);
        deliver(2);
        if (numbers.nextBoolean()) {
            call("crash", controller);
        }
        takeOver(1 - controller);
    }

    /** The partner hears of what is written, perhaps of the note, and not that it has come to the disks. */
    private void destageUnheard(int controller) {
        writeSome(controller);
        call("flush", controller);
        steps(controller, numbers.nextInt(2));
        deliver(3);
        call("cut", true);
        steps(controller, 7);
        call("cut", false);
    }

    /** What is dirty comes to the disks, as far as it goes. */
    private void settle() {
        call("cut", false);
        for (int controller = 0; controller < 2; controller++) {
            call("flush", controller);
            steps(controller, 4 + numbers.nextInt(12));
            deliver(4);
        }
    }

    private String call(String name, Object... arguments) {
        if (!mayGoOn()) {
            return "";
        }
        calls.add(name + List.of(arguments));
        String got = Run.answer(object, name, arguments);
        String due = Run.answer(model, name, arguments);
        isSame = got.equals(due);
        if (!isSame) {
            Check.same(String.join(" ", calls), got, due);
        }
        return got;
    }

    private void lookAtAll() {
        for (int i = 0; i < 28; i++) {
            call("state", i / 14, i % 14);
        }
        for (int disk = 0; disk < 5; disk++) {
            call("keyOf", disk);
        }
        for (int i = 0; i < 40; i++) {
            call("onDisk", i / 8, i % 8);
        }
        for (int stripe = 0; stripe < 8; stripe++) {
            call("parityGood", stripe);
        }
        call("lates");
    }

    private void lookAtTickets() {
        for (int t = 0; t < 200; t++) {
            call("ticket", t);
            call("value", t);
        }
    }

    private void readAll() {
        for (int block = 0; block < 64; block++) {
            String ticket = call("read", block / 32, block % 32);
            if (!ticket.isEmpty()) {
                call("value", Integer.valueOf(ticket));
            }
        }
    }
}
