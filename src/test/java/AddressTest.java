/** TRAPS, ENTRIES, LEVELS and the spans of ADDRESSES (promises 8, 13, 15, 17). */
public final class AddressTest {
    private static final Due DUE = new Due();

    public static void main(String[] args) {
        takingTraps();
        interrupts();
        prefetch();
        entries();
        levels();
        leastEntry();
        memoryItself();
        devicesAreFetchedAsNothing();
        colours();
        settings();
        DUE.end();
    }

    private static void takingTraps() {
        for (int mode = 0; mode < 4; mode++) {
            Bench x = new Bench();
            int signs = mode | Code.Z | Code.V | (mode == 1 ? Code.F : 0);
            DUE.is("SWI", 4, x.does(signs, Code.SWI | 77));
            DUE.is("SWI: R14", signs | Bench.AT + 4, x.board.register(3, 14));
            DUE.is("SWI: R15", signs & ~3 | Code.I | Code.SVC | 8, x.r15());
            DUE.is("SWI: count", 1, x.board.count(3));
            for (int other = 0; other < 3; other++) {
                DUE.is("R14 of others stays", 0, x.board.register(other, 14));
            }
        }
        Bench x = new Bench();
        x.doesAt(0x2FFFFFC, Bench.QUIET, Code.SWI);
        DUE.is("R14 behind a span", Bench.QUIET | 0x3000000, x.get(14));
    }

    private static void interrupts() {
        Bench x = new Bench();
        x.writeDevice(0x80006, 0x80);
        x.put(3, 0, 9);
        int move = Code.work(Code.MOV, 0, 0, 0, Code.turned(1, 0));
        DUE.is("IRQ", 4, x.does(Code.USER | Code.N, move));
        DUE.is("IRQ: R15", Code.N | Code.I | Code.IRQ | 24, x.r15());
        DUE.is("IRQ: R14", Code.N | Code.USER | Bench.AT + 4, x.board.register(2, 14));
        DUE.is("the instruction is not done", 9, x.get(0));
        DUE.is("with I it is", 1, x.does(Code.USER | Code.I, move));
        DUE.is("the instruction is done", 1, x.get(0));
        DUE.is("IRQ from SVC", 4, x.does(Code.SVC | Code.F, move));
        DUE.is("IRQ: F stays", Code.I | Code.F | Code.IRQ | 24, x.r15());
        x.writeDevice(0x8000E, 0x80);
        DUE.is("FIQ goes first", 4, x.does(Code.SVC | Code.Z, move));
        DUE.is("FIQ: R15", Code.Z | Code.I | Code.F | Code.FIQ | 28, x.r15());
        DUE.is("FIQ: R14", Code.Z | Code.SVC | Bench.AT + 4, x.board.register(1, 14));
        x.does(Code.SVC | Code.F, move);
        DUE.is("with F it is IRQ", 2, x.r15() & 3);
        x.does(Code.SVC | Code.I, move);
        DUE.is("FIQ, I being 1", 1, x.r15() & 3);
        DUE.is("counts of IRQ", 3, x.board.count(7));
        DUE.is("counts of FIQ", 2, x.board.count(8));
        x.put(0, 15, Code.SVC | 0x5000);
        x.board.step(1);
        DUE.is("FIQ goes ahead of PREFETCH", 0, x.board.count(4));
        x.writeDevice(0x8000E, 0);
        x.writeDevice(0x80006, 0);
        x.writeDevice(0x8000A, 0x40);
        DUE.is("IRQ by B", 4, x.does(Code.SVC, move));
        DUE.is("IRQ by B: count", 4, x.board.count(7));
    }

    private static void prefetch() {
        Bench x = new Bench();
        for (int address : new int[] {0x1000, 0x1FFFFFC}) {
            x.put(0, 15, Code.USER | Code.C | address);
            DUE.is("PREFETCH", 4, x.ticksOfStep());
            DUE.is("PREFETCH: R15", Code.C | Code.I | Code.SVC | 12, x.r15());
            DUE.is("PREFETCH: R14", Code.C | Code.USER | address + 4, x.board.register(3, 14));
        }
        x.put(0, 15, Code.USER | 0x2000000);
        x.board.step(1);
        DUE.is("USER is not in MEMORY itself", 3, x.board.count(4));
        x.put(0, 15, Code.USER | 0x3FFFFFC);
        x.board.step(1);
        DUE.is("R14 wraps", 0, x.board.register(3, 14));
        DUE.is("no instruction was met", 0, x.board.count(10));
    }

    private static void entries() {
        Bench x = new Bench();
        x.write(0x3800000 | 0x7FF << 12 | 2 << 10 | 3 << 8 | 13, 0);
        DUE.is("NUMBER: bits 10, 11 are above", 2 << 11 | 0x7FF, x.board.entry(13, 0));
        DUE.is("LEVEL", 3, x.board.entry(13, 1));
        x.write(0x3800000 | 1 << 12 | 1 << 10 | 1 << 8 | 0xE0 | 6, 0);
        DUE.is("other bits tell nothing", 1 << 11 | 1, x.board.entry(6, 0));
        DUE.is("LEVEL", 1, x.board.entry(6, 1));
        x.write(0x3800000 | 7 << 12 | 2 << 8 | 1 << 4 | 6, 0);
        DUE.is("no NUMBER", -1, x.board.entry(6, 0));
        DUE.is("its LEVEL", 2, x.board.entry(6, 1));
        x.write(0x3FFFFEF, 0);
        DUE.is("bits 0, 1 tell, too", 8191, x.board.entry(15, 0));
        x.writeByte(0x3800003, 0);
        DUE.is("by a byte as well", 0, x.board.entry(3, 0));
        DUE.is("a read gives 0", 0, x.read(0x3805001));
        DUE.is("and tells nothing", -1, x.board.entry(1, 0));
        // The span of the PICTURE's colours ends at 0x35FFFFF, that of the settings at 0x37FFFFF.
        x.write(0x37FFFF2, 0);
        DUE.is("below 0x3800000 no ENTRY is told", -1, x.board.entry(2, 0));
        x.map(0, 77, 3);
        x.write(0x3800000, 0);
        DUE.is("at 0x3800000 the first one is", 0, x.board.entry(0, 0));
        DUE.is("and its LEVEL", 0, x.board.entry(0, 1));
        x.map(1, 8191, 0);
        x.poke(2047, 321);
        DUE.is("a PAGE at the end of the span", 321, x.read(0x1FFFFFC));
    }

    private static void levels() {
        Bench x = new Bench();
        int[][][] want = {{{1, 1}, {1, 1}}, {{1, 0}, {1, 1}}, {{0, 0}, {1, 0}}, {{0, 0}, {1, 0}}};
        for (int level = 0; level < 4; level++) {
            x.map(3, 700, level);
            for (int os = 0; os < 2; os++) {
                x.os(os);
                for (int what = 0; what < 2; what++) {
                    String name = "LEVEL " + level + " OS " + os + " what " + what;
                    DUE.is(name, want[level][os][what], x.board.allowed(0, 700 * 4096 + 5, what));
                    for (int mode = 1; mode < 4; mode++) {
                        DUE.is(name + " MODE " + mode, 1, x.board.allowed(mode, 700 * 4096 + 5, what));
                    }
                    userTransfers(x, name, what, want[level][os][what]);
                }
                userFetches(x, "LEVEL " + level + " OS " + os, want[level][os][0]);
            }
        }
    }

    private static void userTransfers(Bench x, String name, int what, int may) {
        x.put(0, 2, 700 * 4096);
        long before = x.board.count(5);
        x.does(Code.USER | Code.I | Code.F, Code.one(Code.P | (what == 0 ? Code.L : 0), 3, 2, 0));
        DUE.is(name + " by a TRANSFER", 1 - may, x.board.count(5) - before);
        before = x.board.count(5);
        x.does(Code.USER | Code.I | Code.F, Code.many(Code.U | (what == 0 ? Code.L : 0), 2, 3, 4));
        DUE.is(name + " by a TRANSFER of many", 1 - may, x.board.count(5) - before);
    }

    private static void userFetches(Bench x, String name, int may) {
        long before = x.board.count(4);
        x.put(0, 15, Code.USER | Code.I | Code.F | 700 * 4096);
        x.board.step(1);
        DUE.is(name + " by a fetch", 1 - may, x.board.count(4) - before);
    }

    private static void leastEntry() {
        Bench x = new Bench();
        x.map(9, 40, 0);
        x.map(4, 40, 3);
        x.map(12, 40, 0);
        x.poke(9 * 1024, 99);
        x.poke(4 * 1024, 44);
        DUE.is("the least one tells the PAGE", 44, x.read(40 * 4096));
        DUE.is("and the LEVEL", 0, x.board.allowed(0, 40 * 4096, 0));
        x.write(0x3800000 | 1 << 4 | 4, 0);
        DUE.is("then the next one", 99, x.read(40 * 4096));
        DUE.is("with its LEVEL", 1, x.board.allowed(0, 40 * 4096, 0));
    }

    private static void memoryItself() {
        Bench x = new Bench();
        x.write(0x2000000, 5);
        x.write(0x200FFFC, 6);
        DUE.is("its first word", 5, x.board.peek(0));
        DUE.is("its last word", 6, x.board.peek(16383));
        DUE.is("again", 5, x.read(0x2010000));
        DUE.is("and again", 6, x.read(0x2FFFFFC));
        x.writeByte(0x2FF0001, 0x1AB);
        DUE.is("a byte", 0xAB05, x.board.peek(0));
    }

    private static void devicesAreFetchedAsNothing() {
        Bench x = new Bench();
        x.board.key(65);
        x.put(3, 0, 7);
        x.put(0, 15, Bench.QUIET | 0x3200004);
        DUE.is("0 is an instruction that is not so", 1, x.ticksOfStep());
        DUE.is("it counts", 1, x.board.count(10));
        DUE.is("nothing came of the fetch", 192, x.board.device(0x80008));
        x.put(0, 15, Bench.QUIET | Code.Z | 0x3200004);
        DUE.is("with Z it is R0 AND R0", 1, x.ticksOfStep());
        DUE.is("R0 stays", 7, x.get(0));
        DUE.is("nothing came of that fetch", 192, x.board.device(0x80008));
        x.put(0, 15, Bench.QUIET | Code.Z | 0x3FFFFFC);
        x.board.step(1);
        DUE.is("PC wraps", Bench.QUIET | Code.Z, x.r15());
    }

    private static void colours() {
        Bench x = new Bench();
        for (int k = 0; k < 64; k++) {
            x.write(0x3400000 + 4 * k, k << 26 | 0x3FFE000 | 0x1F00 + k);
        }
        for (int k = 0; k < 16; k++) {
            DUE.is("COLOUR " + k, 0x1F00 + k, x.board.look(16 + k));
        }
        DUE.is("BORDER", 0x1F10, x.board.look(6));
        DUE.is("DEPTH: bits 2, 3 of 0x1F38", 2, x.board.look(0));
        x.write(0x35FFFFC, 56 << 26 | ~0xC & 0x3FFFFFF);
        DUE.is("DEPTH at the end of the span", 0, x.board.look(0));
        x.writeByte(0x3400000, 0xE3);
        DUE.is("by a byte: four of them are 56 << 26, and bits 2, 3 are 0", 0, x.board.look(0));
        x.writeByte(0x3400000, 0x07);
        DUE.is("COLOUR 1 by a byte", 0x0707, x.board.look(17));
        x.write(0x3600000, 2 << 26 | 5);
        DUE.is("not from 0x3600000 on", 0x1F02, x.board.look(18));
        x.write(0x33FFFFC, 2 << 26 | 5);
        DUE.is("not below 0x3400000", 0x1F02, x.board.look(18));
        DUE.is("a read gives 0", 0, x.read(0x3400008));
        DUE.is("a read gives 0", 0, x.read(0x3600008));
    }

    private static void settings() {
        Bench x = new Bench();
        for (int k = 0; k < 3; k++) {
            x.write(0x3600000 | k << 17 | (0x4001 + k) << 2, -1);
        }
        DUE.is("START", 0x4001, x.board.look(3));
        DUE.is("LOW", 0x4002, x.board.look(4));
        DUE.is("HIGH", 0x4003, x.board.look(5));
        for (int k = 3; k < 7; k++) {
            x.write(0x3600000 | k << 17 | 0x1FFFF, -1);
        }
        DUE.is("START stays", 0x4001, x.board.look(3));
        DUE.is("LOW stays", 0x4002, x.board.look(4));
        DUE.is("HIGH stays", 0x4003, x.board.look(5));
        DUE.is("VIDEO stays", 0, x.board.look(1));
        DUE.is("OS stays", 0, x.board.look(2));
        x.write(0x36E0000 | 1 << 10, 0);
        DUE.is("VIDEO", 10, 10 * x.board.look(1) + x.board.look(2));
        x.write(0x36E0000 | 1 << 12, 0);
        DUE.is("OS", 1, 10 * x.board.look(1) + x.board.look(2));
        x.write(0x36E0000 | 0x1FFFF & ~0x1400, -1);
        DUE.is("neither", 0, 10 * x.board.look(1) + x.board.look(2));
        x.write(0x37FFFFF, 0);
        DUE.is("at the end of the span", 11, 10 * x.board.look(1) + x.board.look(2));
        x.write(0x3700000 | 9 << 2, 0);
        DUE.is("bit 20 tells nothing", 9, x.board.look(3));
        x.writeByte(0x3600000 | 3 << 2 | 3, 0);
        DUE.is("by a byte", 3, x.board.look(3));
    }
}
