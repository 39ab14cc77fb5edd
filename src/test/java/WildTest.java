import java.util.Random;

/**
 * Wild arguments in wild states, also far beyond 512 calls: only what the document names is ever thrown, and by
 * exactly that class, so that nothing of the machine's own comes out.
 */
public final class WildTest {
    private static final Class<?> BOUNDS = IndexOutOfBoundsException.class;
    private static final Class<?> ARGUMENT = IllegalArgumentException.class;
    private static final Class<?> STATE = IllegalStateException.class;

    private final Random dice;
    private final OrderedWorks x;

    private WildTest(int seed) {
        dice = new Random(seed);
        x = new OrderedWorks(dice.nextInt(), dice.nextInt());
    }

    public static void main(String[] args) {
        for (int seed = 0; seed < 60; seed++) {
            WildTest test = new WildTest(seed);
            for (int call = 0; call < 3000; call++) {
                test.step();
            }
            Check.due("held to", test.x.broken(), 0);
        }
        Check.end();
    }

    private int wild() {
        switch (dice.nextInt(12)) {
            case 0: return Integer.MIN_VALUE;
            case 1: return Integer.MAX_VALUE;
            case 2: return dice.nextInt();
            case 3: return -1;
            case 4: return 200 - dice.nextInt(150);
            default: return dice.nextInt(9);
        }
    }

    private void only(Check.Act act, Class<?>... named) {
        boolean fine = true;
        String got = "";
        try {
            act.go();
        } catch (RuntimeException e) {
            fine = false;
            for (Class<?> c : named) {
                fine |= e.getClass() == c;
            }
            got = e.toString();
        }
        Check.yes("nothing but what is named: " + got, fine);
    }

    private void step() {
        int a = wild();
        int b = wild();
        int c = wild();
        int d = wild();
        int m = x.message(dice.nextInt(Math.max(1, x.about(0))), 0);
        switch (dice.nextInt(36)) {
            case 0: case 31: case 32: case 33: only(() -> x.request(a & 3, b & 1, c & 7, d), STATE); break;
            case 1: only(() -> x.request(a, b, c, d), BOUNDS, ARGUMENT, STATE); break;
            case 2: only(() -> x.again(a), BOUNDS, STATE); break;
            case 3: only(() -> x.deliver(a), ARGUMENT); break;
            case 4: case 34: case 35: only(() -> x.deliver(m), ARGUMENT); break;
            case 5: only(() -> x.lose(a), ARGUMENT); break;
            case 6: only(() -> x.flow(a), ARGUMENT); break;
            case 7: only(() -> x.down(a), BOUNDS, STATE); break;
            case 8: only(() -> x.up(a), BOUNDS, STATE); break;
            case 9: only(() -> x.suspect(a), BOUNDS, STATE); break;
            case 10: only(() -> x.nudge(a), BOUNDS, STATE); break;
            case 11: only(() -> x.sync(a), BOUNDS, STATE); break;
            case 12: only(() -> x.tick(a), ARGUMENT); break;
            case 13: only(() -> x.calm(a), ARGUMENT); break;
            case 14: only(() -> x.fail()); break;
            case 15: only(() -> x.install()); break;
            case 16: only(() -> x.replica(a, b)); break;
            case 17: only(() -> x.entry(a, b, c)); break;
            case 18: only(() -> x.word(a, b)); break;
            case 19: only(() -> x.client(a, b)); break;
            case 20: only(() -> x.answer(a)); break;
            case 21: only(() -> x.about(a)); break;
            case 22: only(() -> x.message(a, b)); break;
            case 23: only(() -> x.wire(a)); break;
            case 24: only(() -> x.image(a), BOUNDS); break;
            case 25: only(() -> x.output(a)); break;
            case 26: only(() -> x.put(dice.nextLong(), a)); break;
            case 27: only(() -> x.take(a, b)); break;
            case 28: only(() -> x.untake(), ARGUMENT); break;
            case 29: only(() -> x.fault(a)); break;
            case 30: only(() -> x.told(a)); break;
            default: only(() -> x.tolds()); break;
        }
    }
}
