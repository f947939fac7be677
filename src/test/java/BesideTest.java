import java.util.Random;

/**
 * PageBoard beside PlainBoard: the same instructions, mostly made by chance (always the same
 * chance), must leave both in the same state. It looks at more than 512 answers of an object,
 * which is more than the document promises, but this class never minds.
 */
public final class BesideTest {
    private static final int BOARDS = 60;
    private static final int ROUNDS = 60;

    private static final Due DUE = new Due();

    private final Random chance;
    private final String name;
    private final PageBoard board = new PageBoard();
    private final PlainBoard plain = new PlainBoard();

    private BesideTest(int seed) {
        chance = new Random(seed);
        name = "board " + seed + ": ";
    }

    public static void main(String[] args) {
        for (int seed = 1; seed <= BOARDS; seed++) {
            new BesideTest(seed).whole();
        }
        for (int ahead = -30; ahead <= 30; ahead++) {
            new BesideTest(1000 + ahead).diskBesideField(ahead);
        }
        DUE.end();
    }

    private void whole() {
        for (int i = 0; i < 16384; i += 2) {
            poke(i, chance.nextInt(), chance.nextInt());
        }
        for (int k = 0; k < 3000; k++) {
            store(chance.nextInt(16), chance.nextInt(1024), chance.nextInt());
        }
        for (int round = 0; round < ROUNDS; round++) {
            settings();
            keys();
            registers();
            program();
            compareQuickly("round " + round);
            if (chance.nextInt(40) == 0) {
                board.reset();
                plain.reset();
            }
        }
        compareAll();
    }

    /** The DISK and the FIELD come to their ends in one STEP of 21 TICKS, in either order. */
    private void diskBesideField(int ahead) {
        for (int i = 0; i < 1024; i++) {
            store(3, i, chance.nextInt());
        }
        for (int k = 0; k < 16; k++) {
            write(0x3400000, k << 26 | chance.nextInt(8192));
        }
        write(0x3600000 | 7 << 17 | 1 << 10, 0);
        write(0x3600000 | 2 << 17 | 0x1FFFC, 0);
        write(0x3400000, 56 << 26 | 8);
        write(0x3010000, 3);
        write(0x3010004, 0);
        // 21 TICKS each: R0 .. R15 come from themselves.
        poke(0x3000, 0xE890FFFF, 0);
        for (int r = 0; r < 15; r++) {
            put(3, r, 0x200D000);
            poke(0x3400 + r, 0x200D000, 0x200C000);
        }
        put(3, 15, 0x0E00C003);
        while (plain.look(11) > 5000 + 2000) {
            run(100);
        }
        // A NOT SO instruction has one TICK.
        for (int i = 0x3100; i < 0x3E00; i += 2) {
            poke(i, 0xF0000000, 0xF0000000);
        }
        put(3, 15, 0x0E00C403);
        while (plain.look(11) > 5000 + ahead) {
            step(1);
        }
        write(0x3010008, 1);
        put(3, 0, 0x200D000);
        put(3, 15, 0x0E00C003);
        poke(0x3400, 0x200D000, 0x200D000);
        while (plain.counts[9] == 0 || plain.look(9) > 0) {
            step(1);
        }
        compareAll();
    }

    // ---- the same call on both

    private void poke(int i, int first, int second) {
        DUE.isTrue("poke", board.poke(i, first, second));
        plain.memory[i] = first & 0xFFFFFFFFL;
        plain.memory[i + 1] = second & 0xFFFFFFFFL;
    }

    private void store(int sector, int i, int v) {
        DUE.isTrue("store", board.store(sector, i, v));
        plain.sectors[sector][i] = v & 0xFFFFFFFFL;
    }

    private void put(int mode, int r, int v) {
        DUE.isTrue("put", board.put(mode, r, v));
        plain.put(mode, r, v);
    }

    private void step(int n) {
        DUE.is(name + "step", plain.step(n), board.step(n));
    }

    private void run(int ticks) {
        DUE.is(name + "run", plain.run(ticks), board.run(ticks));
    }

    private void write(int address, int v) {
        put(3, 0, v);
        put(3, 1, address);
        poke(1020, 0xE5810000, 0);
        put(3, 15, 0x0E000FF3);
        step(1);
    }

    // ---- what comes by chance

    private boolean oneOf(int n) {
        return chance.nextInt(n) == 0;
    }

    private void settings() {
        int many = chance.nextInt(6);
        for (int k = 0; k < many; k++) {
            switch (chance.nextInt(8)) {
                case 0:
                    write(0x3800000 | chance.nextInt(0x800000), chance.nextInt());
                    break;
                case 1:
                    write(0x3800000 | chance.nextInt(4) << 12 | chance.nextInt(4) << 8 | chance.nextInt(16), 0);
                    break;
                case 2:
                    write(0x3400000, chance.nextInt(17) << 26 | chance.nextInt());
                    break;
                case 3:
                    write(0x3400000, 56 << 26 | chance.nextInt(16));
                    break;
                case 4:
                    write(0x3600000 | chance.nextInt(3) << 17 | chance.nextInt(0x20000), 0);
                    break;
                case 5:
                    write(0x36E0000 | chance.nextInt(0x2000), 0);
                    break;
                case 6:
                    write(0x3200000 | chance.nextInt(24) << 2, oneOf(2) ? 0 : chance.nextInt());
                    break;
                default:
                    write(0x3010000 | chance.nextInt(2) << 2, chance.nextInt(17));
                    write(0x3010008, chance.nextInt(3));
                    break;
            }
        }
    }

    private void keys() {
        if (oneOf(4)) {
            int b = chance.nextInt();
            DUE.is("key", plain.key(b) ? 1 : 0, board.key(b) ? 1 : 0);
        }
    }

    private int anyValue() {
        switch (chance.nextInt(12)) {
            case 0: return 0;
            case 1: return -1 << chance.nextInt(32);
            case 2: return 0x7FFFFFFF;
            case 3: return chance.nextInt(300);
            case 4: return chance.nextInt(0x4000);
            case 5: return 0x2000000 + chance.nextInt(0x10000);
            case 6: return 0x3200000 + chance.nextInt(0x60);
            case 7: return 0x3010000 + chance.nextInt(12);
            case 8: return 0x3400000 + chance.nextInt(0xC00000);
            case 9: return 0x3FFFFFF - chance.nextInt(80);
            case 10: return 0x3FFFFC0 + chance.nextInt(80);
            default: return chance.nextInt();
        }
    }

    private void registers() {
        for (int k = 0; k < 12; k++) {
            put(chance.nextInt(4), chance.nextInt(15), anyValue());
        }
        if (oneOf(6)) {
            int to = oneOf(2) ? -1 : chance.nextInt(0x400);
            DUE.isTrue("stopAt", board.stopAt(to));
            plain.stop = to == -1 ? -1 : to / 4 * 4;
        }
    }

    private int anyInstruction() {
        int w = chance.nextInt();
        int condition = oneOf(5) ? w & 0xF0000000 : 0xE0000000;
        int top = 0;
        switch (chance.nextInt(10)) {
            case 0: top = 0; break;
            case 1: top = 0; w &= ~0x80; break;
            case 2: top = 0; w &= ~0x10; break;
            case 3: top = 0; w = w & 0x3FFF0F | 0x90; break;
            case 4: top = 1; break;
            case 5: top = 2; break;
            case 6: top = 3; w = oneOf(6) ? w : w & ~0x10; break;
            case 7: case 8: top = 4; break;
            default: top = chance.nextInt(8); break;
        }
        return condition | top << 25 | w & 0x1FFFFFF;
    }

    private void program() {
        int at = chance.nextInt(1000);
        int many = 2 + 2 * chance.nextInt(6);
        for (int k = 0; k < many; k += 2) {
            poke(at + k, anyInstruction(), anyInstruction());
        }
        int span = oneOf(3) ? 0 : 0x2000000;
        span = oneOf(30) ? chance.nextInt() & 0x3FFF000 : span;
        put(0, 15, chance.nextInt() & 0xF0000003 | chance.nextInt(4) << 26 | span | at * 4);
        step(1 + chance.nextInt(many + 3));
        if (oneOf(8)) {
            run(1 + chance.nextInt(20000));
        }
    }

    // ---- comparing

    private void compareQuickly(String when) {
        for (int mode = 0; mode < 4; mode++) {
            for (int r = 0; r < 16; r++) {
                DUE.is(name + when + " register " + mode + " " + r, plain.register(mode, r), board.register(mode, r));
            }
        }
        for (int what = 0; what < 13; what++) {
            DUE.is(name + when + " count " + what, plain.counts[what], board.count(what));
        }
        for (int what = 0; what < 32; what++) {
            DUE.is(name + when + " look " + what, plain.look(what), board.look(what));
        }
        for (int e = 0; e < 16; e++) {
            DUE.is(name + when + " number " + e, plain.entry(e, 0), board.entry(e, 0));
            DUE.is(name + when + " level " + e, plain.entry(e, 1), board.entry(e, 1));
        }
        for (int k = 0; k < 40; k++) {
            DUE.is(name + when + " device " + k, plain.device(0x80000 + k), board.device(0x80000 + k));
            DUE.is(name + when + " disk " + k, plain.device(0x3FFC + k), board.device(0x3FFC + k));
        }
        for (int k = 0; k < 8; k++) {
            int address = oneOf(2) ? chance.nextInt(1 << 26) : chance.nextInt(0x4000);
            int mode = chance.nextInt(4);
            DUE.is(name + when + " allowed read", plain.allowed(mode, address, false), board.allowed(mode, address, 0));
            DUE.is(name + when + " allowed write", plain.allowed(mode, address, true), board.allowed(mode, address, 1));
        }
    }

    private void compareAll() {
        compareQuickly("at the end");
        for (int i = 0; i < 16384; i++) {
            DUE.is(name + "peek " + i, (int) plain.memory[i], board.peek(i));
            DUE.is(name + "stored " + i, (int) plain.sectors[i / 1024][i % 1024], board.stored(i / 1024, i % 1024));
        }
        for (int y = 0; y < 32; y++) {
            for (int x = 0; x < 64; x++) {
                DUE.is(name + "place " + x + " " + y, plain.picture[y][x], board.place(x, y));
            }
        }
        for (int i = 0; i < 4001; i++) {
            DUE.is(name + "letter " + i, plain.letter(i), board.letter(i));
        }
    }
}
