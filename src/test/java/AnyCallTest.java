import java.util.Random;

/** Whatever is asked, nothing but what the document names is thrown, and every call ends. */
public final class AnyCallTest {
    private static final int BOARDS = 150;
    private static final int CALLS = 512;
    private static final int[] EDGES = {
        Integer.MIN_VALUE, -2, -1, 0, 1, 2, 3, 4, 15, 16, 31, 32, 63, 64, 255, 256, 1023, 1024, 3999, 4000, 4999, 5000, 5001,
        16382, 16383, 16384, 19999, 20000, 20001, 0x3FFF, 0x4000, 0x80000, 0xFFFFF, 0x100000, 0x1FFFFFF, 0x2000000,
        0x3000000, 0x3FFFFFF, 0x4000000, Integer.MAX_VALUE,
    };

    private final Random chance;
    private final Due due;

    private AnyCallTest(int seed, Due due) {
        this.chance = new Random(seed);
        this.due = due;
    }

    public static void main(String[] args) {
        Due due = new Due();
        for (int seed = 0; seed < BOARDS; seed++) {
            new AnyCallTest(seed, due).calls();
        }
        due.end();
    }

    private int any() {
        switch (chance.nextInt(3)) {
            case 0: return chance.nextInt();
            case 1: return chance.nextInt(32);
            default: return EDGES[chance.nextInt(EDGES.length)];
        }
    }

    private void calls() {
        PageBoard b = new PageBoard();
        for (int k = 0; k < CALLS; k++) {
            int which = chance.nextInt(20);
            Class<?> named = which == 3 || which == 5 || which == 10 ? IndexOutOfBoundsException.class
                : which == 7 || which == 8 ? IllegalArgumentException.class : null;
            Class<?> thrown = null;
            try {
                call(b, which);
            } catch (RuntimeException e) {
                thrown = e.getClass();
            }
            due.isTrue("call " + which + " threw " + thrown, thrown == null || thrown == named);
        }
    }

    private void call(PageBoard b, int which) {
        switch (which) {
            case 0: b.reset(); break;
            case 1: case 2: b.poke(chance.nextInt(1024), any(), any()); break;
            case 3: b.peek(any()); break;
            case 4: b.store(any(), any(), any()); break;
            case 5: b.stored(any(), any()); break;
            case 6: b.key(any()); break;
            case 7: b.step(any()); break;
            case 8: b.run(any()); break;
            case 9: b.stopAt(any()); break;
            case 10: b.register(any(), any()); break;
            case 11: case 12: b.put(chance.nextInt(4), chance.nextInt(16), any()); break;
            case 13: b.entry(any(), any()); break;
            case 14: b.device(any()); break;
            case 15: b.allowed(any(), any(), any()); break;
            case 16: b.count(any()); break;
            case 17: b.look(any()); break;
            case 18: b.place(any(), any()); break;
            default: b.letter(any()); break;
        }
    }
}
