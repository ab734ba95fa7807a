import java.util.Random;

/** Calls of a random kind with numbers that are sensible most of the time. */
final class RandomCall {
    private RandomCall() {
    }

    static Run.Call from(Random numbers) {
        int kind = numbers.nextInt(40);
        int a = numbers.nextInt(1 << 16);
        int b = numbers.nextInt(1 << 16);
        return x -> of(x, kind, a, b);
    }

    private static int of(TwinArray x, int kind, int a, int b) {
        switch (kind) {
            case 0: case 1: case 2: return x.write(a % 2, (a % 2 * 16 + b % 16 + a / 2 % 9 / 8 * 16) % 32, a * b);
            case 3: return x.read(a % 2, b % 32);
            case 4: return a % 2 == 0 ? x.ticket(b % 100) : x.value(b % 100);
            case 5: return cut(x, a % 8 == 0);
            case 6: return a % 3 == 0 ? Run.bit(x.crash(b % 2)) : x.lates();
            case 7: return Run.bit(x.restart(a % 2));
            case 8: return Run.bit(x.pair());
            case 9: return a % 3 == 0 ? Run.bit(x.takeOver(b % 2)) : x.lates();
            case 10: return Run.bit(x.moveOwner(a % 2));
            case 11: return Run.bit(x.flush(a % 2));
            case 12: return a % 4 == 0 ? Run.bit(x.lose(b % 5)) : x.lates();
            case 13: return Run.bit(x.replace(a % 5));
            case 14: return x.rebuild(a % 5);
            case 15: return a % 4 == 0 ? x.late(b % 3) : x.lates();
            case 16: return x.parityGood(a % 8);
            case 17: return x.onDisk(a % 5, b % 8);
            case 18: return x.keyOf(a % 5);
            case 19: return x.state(a % 2, b % 15);
            case 20: case 21: case 22: case 23: case 24: case 25: case 26: return x.arrive(a % 2);
            default: return x.step(a % 2);
        }
    }

    private static int cut(TwinArray x, boolean on) {
        x.cut(on);
        return 0;
    }
}
