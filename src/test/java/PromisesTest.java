/** Promises 1 to 19: ordinary inputs, the edges that the document names, and wrong inputs. */
public final class PromisesTest {
    private static final Due DUE = new Due();
    private static final int[] FAR = {Integer.MIN_VALUE, Integer.MIN_VALUE + 1, Integer.MAX_VALUE - 1, Integer.MAX_VALUE};

    public static void main(String[] args) {
        newObject();
        reset();
        pokeAndPeek();
        storeAndStored();
        key();
        step();
        run();
        stopAt();
        registerAndPut();
        entry();
        device();
        allowed();
        count();
        look();
        place();
        letter();
        DUE.end();
    }

    private static void newObject() {
        PageBoard b = new PageBoard();
        for (int mode = 0; mode < 4; mode++) {
            for (int r = 0; r < 15; r++) {
                DUE.is("1: register " + mode + " " + r, 0, b.register(mode, r));
            }
            DUE.is("1: R15 of " + mode, 0x0C000003, b.register(mode, 15));
        }
        for (int i = 0; i < 16384; i++) {
            DUE.is("1: peek " + i, 0, b.peek(i));
            DUE.is("1: stored " + i, 0, b.stored(i >> 10, i & 1023));
        }
        for (int i = 0; i < 2048; i++) {
            DUE.is("1: place " + i, 0, b.place(i & 63, i >> 6));
        }
        for (int what = 0; what < 13; what++) {
            DUE.is("1: count " + what, 0, b.count(what));
        }
        DUE.is("1: letter", -1, b.letter(0));
        devicesAreNew("1: ", b);
    }

    private static void devicesAreNew(String name, PageBoard b) {
        for (int what = 0; what < 32; what++) {
            long want = what == 11 ? 20000 : what == 14 || what == 15 ? -1 : 0;
            DUE.is(name + "look " + what, want, b.look(what));
        }
        for (int e = 0; e < 16; e++) {
            DUE.is(name + "number " + e, e == 0 ? 0 : -1, b.entry(e, 0));
            DUE.is(name + "level " + e, 0, b.entry(e, 1));
        }
        for (int k = 0; k < 32; k++) {
            long want = k == 4 || k == 12 ? 128 : k == 8 ? 64 : 0;
            DUE.is(name + "device " + k, want, b.device(0x80000 + k));
            DUE.is(name + "disk " + k, 0, b.device(0x4000 + k));
        }
    }

    private static void reset() {
        Bench x = new Bench();
        PageBoard b = x.board;
        for (int mode = 0; mode < 4; mode++) {
            for (int r = 0; r < 15; r++) {
                b.put(mode, r, 77);
            }
        }
        b.store(3, 4, 5);
        b.key(9);
        for (int k = 0; k < 24; k++) {
            x.writeDevice(0x80000 + k, 3);
        }
        x.writeDevice(0x4000, 3);
        x.writeDevice(0x4001, 4);
        x.writeDevice(0x4002, 7);
        x.writeDevice(0x4002, 1);
        x.map(0, 5, 3);
        x.map(15, 9, 2);
        for (int k = 0; k < 17; k++) {
            x.write(0x3400000, k << 26 | 99);
        }
        x.write(0x3400000, 56 << 26 | 12);
        for (int k = 0; k < 8; k++) {
            x.write(0x3600000 | k << 17 | 0x1FFFC, 0);
        }
        b.stopAt(8);
        x.waitByFours(20000 - (int) b.count(0) % 20000);
        DUE.is("2: the picture ahead", 99, b.place(5, 5) & 0xFF);
        int place = b.place(5, 5);
        long ticks = b.count(0);
        long steps = b.count(1);
        b.poke(700, 12, 13);
        b.reset();
        for (int mode = 0; mode < 4; mode++) {
            for (int r = 0; r < 15; r++) {
                DUE.is("2: register " + mode + " " + r, 0, b.register(mode, r));
            }
        }
        DUE.is("2: R15", 0x0C000003, b.register(0, 15));
        devicesAreNew("2: ", b);
        DUE.is("2: MEMORY stays", 13, b.peek(701));
        DUE.is("2: SECTORS stay", 5, b.stored(3, 4));
        DUE.is("2: the PICTURE stays", place, b.place(5, 5));
        DUE.is("2: OUT stays", 3, b.letter(0));
        DUE.is("2: no more of OUT", -1, b.letter(1));
        DUE.is("2: TICKS stay", ticks, b.count(0));
        DUE.is("2: STEPS stay", steps, b.count(1));
        DUE.is("2: FIELDS stay", 1, b.count(9));
        DUE.is("2: copied words stay", 1024, b.count(11));
        DUE.is("2: bytes of OUT stay", 1, b.count(12));
        DUE.isTrue("2: RX is 0", b.key(1));
        b.poke(0, Code.NEVER, Code.NEVER);
        b.poke(2, Code.NEVER, Code.NEVER);
        DUE.is("2: stopAt() stays", 2, b.step(10));
        DUE.is("2: TIMERS and FIELD begin anew", 19998, b.look(11));
        resetEndsWhatIsUnderWay();
    }

    private static void resetEndsWhatIsUnderWay() {
        Bench x = new Bench();
        x.poke(3, 44);
        x.writeDevice(0x4001, 1);
        x.writeDevice(0x4002, 2);
        x.writeDevice(0x80001, 65);
        x.writeDevice(0x80010, 5);
        x.wait(2);
        x.board.reset();
        DUE.is("2: DISK is not BUSY", 0, x.board.look(9));
        DUE.is("2: no TICKS up to TX", 0, x.board.look(10));
        DUE.is("2: TX is 1", 64, x.board.device(0x80008));
        x.waitByFours(6000);
        DUE.is("2: nothing is copied later", 0, x.board.count(11));
        DUE.is("2: DISK stays 0", 64, x.board.device(0x80008));
        DUE.is("2: TIMERS do not count", 0, x.board.look(7));
        x.writeDevice(0x4002, 9);
        x.board.reset();
        DUE.is("2: DISK is not WRONG", 0, x.board.device(0x4002));
        // Each fourth TICK counts from RESET on, not from the beginning.
        x.board.reset();
        x.wait(3);
        x.board.reset();
        x.writeDevice(0x80010, 9);
        x.wait(3);
        DUE.is("2: the fourth TICK is one of the new ones", 65535, x.board.look(7));
        x.wait(1);
        DUE.is("2: and so is the eighth", 65534, x.board.look(7));
    }

    private static void pokeAndPeek() {
        PageBoard b = new PageBoard();
        DUE.isTrue("3: poke 0", b.poke(0, 1, 2));
        DUE.isTrue("3: poke 1", b.poke(1, -3, Integer.MIN_VALUE));
        DUE.is("4: peek 0", 1, b.peek(0));
        DUE.is("4: peek 1", -3, b.peek(1));
        DUE.is("4: peek 2", Integer.MIN_VALUE, b.peek(2));
        DUE.isTrue("3: poke the last two", b.poke(16382, 5, 6));
        DUE.is("4: the last but one", 5, b.peek(16382));
        DUE.is("4: the last", 6, b.peek(16383));
        DUE.isFalse("3: no i + 1", b.poke(16383, 8, 9));
        DUE.is("3: it changed nothing", 6, b.peek(16383));
        DUE.isFalse("3: no i", b.poke(-1, 8, 9));
        DUE.is("3: it changed nothing, either", 1, b.peek(0));
        DUE.isFalse("3: no i, no i + 1", b.poke(16384, 8, 9));
        for (int far : FAR) {
            DUE.isFalse("3: poke " + far, b.poke(far, 8, 9));
            DUE.throwsA(IndexOutOfBoundsException.class, "4: peek " + far, () -> b.peek(far));
        }
        DUE.throwsA(IndexOutOfBoundsException.class, "4: peek -1", () -> b.peek(-1));
        DUE.throwsA(IndexOutOfBoundsException.class, "4: peek 16384", () -> b.peek(16384));
    }

    private static void storeAndStored() {
        PageBoard b = new PageBoard();
        for (int sector = 0; sector < 16; sector++) {
            DUE.isTrue("5: store", b.store(sector, 0, 100 + sector));
            DUE.isTrue("5: store", b.store(sector, 1023, -sector));
        }
        for (int sector = 0; sector < 16; sector++) {
            DUE.is("6: stored", 100 + sector, b.stored(sector, 0));
            DUE.is("6: stored", -sector, b.stored(sector, 1023));
            DUE.is("6: stored", 0, b.stored(sector, 1));
        }
        int[][] wrong = {{-1, 0}, {16, 0}, {0, -1}, {0, 1024}, {15, 1024}, {16, 1024}, {FAR[0], FAR[3]}, {FAR[3], FAR[0]}};
        for (int[] w : wrong) {
            DUE.isFalse("5: store " + w[0] + " " + w[1], b.store(w[0], w[1], 55));
            DUE.throwsA(IndexOutOfBoundsException.class, "6: stored " + w[0] + " " + w[1], () -> b.stored(w[0], w[1]));
        }
        DUE.is("5: nothing has changed", 100, b.stored(0, 0));
        DUE.is("5: nothing has changed", 101, b.stored(1, 0));
        DUE.is("5: MEMORY is another thing", 0, b.peek(0));
    }

    private static void key() {
        Bench x = new Bench();
        DUE.isTrue("7: key", x.board.key(0x1FE));
        DUE.is("7: its lowest 8 bits", 0xFE, x.board.device(0x80001));
        DUE.is("7: RX is 1", 128 + 64, x.board.device(0x80008));
        DUE.isFalse("7: key, RX being 1", x.board.key(5));
        DUE.is("7: it changed nothing", 0xFE, x.board.device(0x80001));
        DUE.is("7: it is read", 0xFE, x.read(Bench.device(0x80001)));
        DUE.is("7: RX is 0", 64, x.board.device(0x80008));
        DUE.is("7: the byte is still the last", 0xFE, x.board.device(0x80001));
        DUE.isTrue("7: the next key", x.board.key(-1));
        DUE.is("7: of -1", 255, x.board.device(0x80001));
    }

    private static void step() {
        PageBoard b = new PageBoard();
        for (int n : new int[] {0, -1, 5001, FAR[0], FAR[3]}) {
            DUE.throwsA(IllegalArgumentException.class, "8: step " + n, () -> b.step(n));
        }
        DUE.is("8: nothing was done", 0, b.count(1));
        DUE.is("8: one", 1, b.step(1));
        b.poke(0, Code.STAY, Code.NEVER);
        b.put(0, 15, 0x0C000003);
        DUE.is("8: the most", 5000, b.step(5000));
        DUE.is("8: STEPS", 5001, b.count(1));
        for (int i = 0; i < 16; i += 2) {
            b.poke(i, Code.NEVER, Code.NEVER);
        }
        b.put(0, 15, 0x0C000003);
        b.stopAt(16);
        DUE.is("8: it stops", 4, b.step(9));
        DUE.is("8: there", 16 | 0x0C000003, b.register(0, 15));
        DUE.is("8: ahead of a STEP it does not stop", 3, b.step(3));
        b.put(0, 15, 0x0C000003);
        DUE.is("8: fewer than up to there", 3, b.step(3));
        DUE.is("8: just up to there", 1, b.step(1));
    }

    private static void run() {
        PageBoard b = new PageBoard();
        for (int n : new int[] {0, -1, 20001, FAR[0], FAR[3]}) {
            DUE.throwsA(IllegalArgumentException.class, "9: run " + n, () -> b.run(n));
        }
        DUE.is("9: nothing was done", 0, b.count(1));
        b.poke(0, Code.STAY, Code.NEVER);
        DUE.is("9: one TICK or more", 1, b.run(1));
        DUE.is("9: just one STEP", 1, b.run(4));
        DUE.is("9: one TICK more", 2, b.run(5));
        DUE.is("9: the most", 5000, b.run(20000));
        for (int i = 0; i < 16; i += 2) {
            b.poke(i, Code.NEVER, Code.NEVER);
        }
        b.put(0, 15, 0x0C000003);
        DUE.is("9: STEPS of one TICK", 7, b.run(7));
        b.put(0, 15, 0x0C000003);
        b.stopAt(12);
        DUE.is("9: it stops", 3, b.run(20000));
        DUE.is("9: and goes on", 2, b.run(2));
    }

    private static void stopAt() {
        PageBoard b = new PageBoard();
        for (int i = 0; i < 16; i += 2) {
            b.poke(i, Code.NEVER, Code.NEVER);
        }
        DUE.is("10: at first they do not stop", 5, b.step(5));
        DUE.isTrue("10: stopAt", b.stopAt(15));
        b.put(0, 15, 0x0C000003);
        DUE.is("10: bits 0, 1 as 0", 3, b.step(5));
        for (int wrong : new int[] {-2, 1 << 26, FAR[0], FAR[3]}) {
            DUE.isFalse("10: stopAt " + wrong, b.stopAt(wrong));
        }
        b.put(0, 15, 0x0C000003);
        DUE.is("10: it changed nothing", 3, b.step(5));
        DUE.isTrue("10: NONE", b.stopAt(PageBoard.NONE));
        b.put(0, 15, 0x0C000003);
        DUE.is("10: they do not stop", 5, b.step(5));
        DUE.isTrue("10: 0", b.stopAt(0));
        b.put(0, 15, 0x0FFFFFFB);
        DUE.is("10: behind the last ADDRESS 0 comes", 2, b.step(5));
        DUE.isTrue("10: the last", b.stopAt((1 << 26) - 1));
        b.put(0, 15, 0x0FFFFFF7);
        DUE.is("10: it is 0x3FFFFFC", 2, b.step(5));
    }

    private static void registerAndPut() {
        PageBoard b = new PageBoard();
        for (int mode = 0; mode < 4; mode++) {
            for (int r = 0; r < 15; r++) {
                DUE.isTrue("12: put", b.put(mode, r, 100 * mode + r));
            }
        }
        for (int r = 0; r < 15; r++) {
            boolean banked = r >= 13;
            DUE.is("11: USER " + r, banked ? r : r < 8 ? 300 + r : 300 + r, b.register(0, r));
            DUE.is("11: FIQ " + r, r >= 8 ? 100 + r : 300 + r, b.register(1, r));
            DUE.is("11: IRQ " + r, banked ? 200 + r : 300 + r, b.register(2, r));
            DUE.is("11: SVC " + r, 300 + r, b.register(3, r));
        }
        DUE.isTrue("12: all bits of R15", b.put(1, 15, -1));
        for (int mode = 0; mode < 4; mode++) {
            DUE.is("11: R15 is one for all", -1, b.register(mode, 15));
        }
        int[][] wrong = {{-1, 0}, {4, 0}, {0, -1}, {0, 16}, {3, 16}, {FAR[0], 1}, {FAR[3], 1}, {1, FAR[0]}, {1, FAR[3]}};
        for (int[] w : wrong) {
            DUE.isFalse("12: put " + w[0] + " " + w[1], b.put(w[0], w[1], 9));
            DUE.throwsA(IndexOutOfBoundsException.class, "11: register " + w[0] + " " + w[1],
                () -> b.register(w[0], w[1]));
        }
    }

    private static void entry() {
        Bench x = new Bench();
        x.map(15, 8191, 3);
        x.map(1, 2049, 1);
        DUE.is("13: NUMBER", 8191, x.board.entry(15, 0));
        DUE.is("13: LEVEL", 3, x.board.entry(15, 1));
        DUE.is("13: NUMBER", 2049, x.board.entry(1, 0));
        DUE.is("13: LEVEL", 1, x.board.entry(1, 1));
        DUE.is("13: of RESET", 0, x.board.entry(0, 0));
        DUE.is("13: none", -1, x.board.entry(2, 0));
        int[][] wrong = {{-1, 0}, {16, 0}, {0, -1}, {0, 2}, {FAR[0], 1}, {FAR[3], 1}, {1, FAR[0]}, {1, FAR[3]}};
        for (int[] w : wrong) {
            DUE.is("13: entry " + w[0] + " " + w[1], -1, x.board.entry(w[0], w[1]));
        }
    }

    private static void device() {
        Bench x = new Bench();
        x.board.key(7);
        DUE.is("14: SERIAL", 7, x.board.device(0x80001));
        DUE.is("14: RX stays 1", 192, x.board.device(0x80008));
        x.writeDevice(0x4002, 9);
        DUE.is("14: DISK is WRONG", 2, x.board.device(0x4002));
        DUE.is("14: DISK stays 1", 200, x.board.device(0x80008));
        DUE.is("14: DISK of F", 129, x.board.device(0x8000C));
        for (int w : new int[] {0, 0x3FFF, 0x4003, 0x4004, 0x7FFFF, 0x80000, 0x80002, 0x80018, 0x80021, 0xFFFFF}) {
            DUE.is("14: device " + w, 0, x.board.device(w));
        }
        for (int w : new int[] {-1, 0x100000, 0x180001, FAR[0], FAR[3]}) {
            DUE.is("14: device " + w, -1, x.board.device(w));
        }
    }

    private static void allowed() {
        PageBoard b = new PageBoard();
        for (int what = 0; what < 2; what++) {
            for (int mode = 0; mode < 4; mode++) {
                int privileged = mode == 0 ? 0 : 1;
                DUE.is("15: the first PAGE", 1, b.allowed(mode, 0, what));
                DUE.is("15: its last byte", 1, b.allowed(mode, 4095, what));
                DUE.is("15: behind it", 0, b.allowed(mode, 4096, what));
                DUE.is("15: the last of the span", 0, b.allowed(mode, 0x1FFFFFF, what));
                DUE.is("15: MEMORY itself", privileged, b.allowed(mode, 0x2000000, what));
                DUE.is("15: DEVICES", privileged, b.allowed(mode, 0x3000000, what));
                DUE.is("15: the last", privileged, b.allowed(mode, 0x3FFFFFF, what));
                DUE.is("15: from 2^26 on", -1, b.allowed(mode, 0x4000000, what));
                DUE.is("15: below 0", -1, b.allowed(mode, -1, what));
                DUE.is("15: far", -1, b.allowed(mode, FAR[0], what));
                DUE.is("15: far", -1, b.allowed(mode, FAR[3], what));
            }
        }
        int[][] wrong = {{-1, 0, 0}, {4, 0, 0}, {0, 0, -1}, {0, 0, 2}, {FAR[0], 0, 0}, {FAR[3], 0, 0}, {0, 0, FAR[0]}};
        for (int[] w : wrong) {
            DUE.is("15: allowed " + w[0] + " " + w[2], -1, b.allowed(w[0], w[1], w[2]));
        }
    }

    private static void count() {
        Bench x = new Bench();
        PageBoard b = x.board;
        x.does(Bench.QUIET, Code.UNDEFINED);
        x.does(Bench.QUIET, Code.SWI);
        x.does(Bench.QUIET, Code.SWI);
        x.put(0, 15, Bench.QUIET | 0x1000);
        b.step(1);
        x.put(3, 0, 0x1000);
        x.does(Bench.QUIET, Code.one(Code.P | Code.L, 1, 0, 0));
        x.put(3, 0, -1);
        x.does(Bench.QUIET, Code.one(Code.P | Code.L, 1, 0, 0));
        x.does(Bench.QUIET, Code.NEVER);
        DUE.is("16: TICKS", 25, b.count(0));
        DUE.is("16: STEPS", 7, b.count(1));
        long[] traps = {1, 2, 1, 1, 1, 0, 0};
        for (int k = 0; k < 7; k++) {
            DUE.is("16: TRAP " + k, traps[k], b.count(2 + k));
        }
        DUE.is("16: not so", 1, b.count(10));
        x.writeDevice(0x80006, 128);
        x.does(Code.SVC | Code.F, Code.NEVER);
        DUE.is("16: IRQ", 1, b.count(7));
        x.writeDevice(0x8000E, 128);
        x.does(Code.SVC, Code.NEVER);
        DUE.is("16: FIQ", 1, b.count(8));
        DUE.is("16: IRQ, no more", 1, b.count(7));
        x.writeDevice(0x80001, 1);
        x.writeDevice(0x80001, 2);
        DUE.is("16: bytes of OUT", 2, b.count(12));
        x.writeDevice(0x4002, 1);
        x.waitByFours(5000);
        DUE.is("16: words copied", 1024, b.count(11));
        x.waitByFours(40000);
        DUE.is("16: FIELDS", 2, b.count(9));
        for (int what : new int[] {-1, 13, FAR[0], FAR[3]}) {
            DUE.is("16: count " + what, -1, b.count(what));
        }
    }

    private static void look() {
        Bench x = new Bench();
        PageBoard b = x.board;
        x.write(0x3400000, 56 << 26 | 2 << 2);
        x.write(0x36E0000 | 1 << 10 | 1 << 12, 0);
        x.write(0x3600000 | 5 << 2, 0);
        x.write(0x3620000 | 6 << 2, 0);
        x.write(0x3640000 | 7 << 2, 0);
        x.write(0x3400000, 16 << 26 | 88);
        x.writeDevice(0x80011, 1);
        x.writeDevice(0x80012, 0);
        x.writeDevice(0x80015, 2);
        x.writeDevice(0x80016, 0);
        for (int k = 0; k < 16; k++) {
            x.write(0x3400000, k << 26 | 1000 + k);
        }
        x.writeDevice(0x8000A, 64);
        x.writeDevice(0x8000E, 128);
        x.writeDevice(0x4002, 1);
        x.writeDevice(0x80001, 1);
        int[] want = {2, 1, 1, 5, 6, 7, 88, 256 - 23, 512 - 21, 4992, 252, 20000 - 30 * 4, 0, 1, -1, -1};
        for (int what = 0; what < want.length; what++) {
            DUE.is("17: look " + what, want[what], b.look(what));
        }
        for (int k = 0; k < 16; k++) {
            DUE.is("17: COLOUR " + k, 1000 + k, b.look(16 + k));
        }
        x.wait(252);
        DUE.is("17: the IRQ LINE", 1, b.look(12));
        for (int what : new int[] {-1, 14, 15, 32, FAR[0], FAR[3]}) {
            DUE.is("17: look " + what, -1, b.look(what));
        }
    }

    private static void place() {
        Bench x = new Bench();
        x.write(0x3400000, 1 << 26 | 500);
        x.write(0x36E0400, 0);
        x.write(0x365FFFC, 0);
        x.poke(1, 1 << 31);
        x.poke(62, 1);
        x.poke(63, 1 << 31);
        x.waitByFours(20000);
        DUE.is("18: the end of the first row", 500, x.board.place(63, 0));
        DUE.is("18: the beginning of the last row", 500, x.board.place(0, 31));
        DUE.is("18: the last place", 500, x.board.place(63, 31));
        DUE.is("18: the first place", 0, x.board.place(0, 0));
        int[][] wrong = {{-1, 0}, {64, 0}, {0, -1}, {0, 32}, {FAR[0], 1}, {FAR[3], 1}, {1, FAR[0]}, {1, FAR[3]}, {1 << 26, 1 << 26}};
        for (int[] w : wrong) {
            DUE.is("18: place " + w[0] + " " + w[1], -1, x.board.place(w[0], w[1]));
        }
    }

    private static void letter() {
        Bench x = new Bench();
        PageBoard b = x.board;
        x.writeDevice(0x80001, 0x1C8);
        x.writeDevice(0x80001, 7);
        DUE.is("19: the first", 0xC8, b.letter(0));
        DUE.is("19: the second", 7, b.letter(1));
        DUE.is("19: no third", -1, b.letter(2));
        // A loop: STRB R0, [R1]; ADD R0, R0, 1; B back: 4 + 1 + 4 TICKS for each byte.
        x.poke(64, Code.one(Code.P | Code.U | Code.B, 0, 1, 0));
        x.poke(65, Code.work(Code.ADD, 0, 0, 0, Code.turned(1, 0)));
        x.poke(66, Code.branch(-4));
        x.put(3, 0, 0);
        x.put(3, 1, Bench.device(0x80001));
        x.put(3, 15, Bench.QUIET | 0x100);
        b.step(3 * 1600);
        b.step(3 * 1600);
        b.step(3 * 798);
        DUE.is("19: 4000 came", 4000, b.count(12));
        DUE.is("19: all are kept", 0xC8, b.letter(0));
        DUE.is("19: the last", 3997 & 255, b.letter(3999));
        DUE.is("19: no more", -1, b.letter(4000));
        b.step(3 * 3);
        DUE.is("19: 4003 came", 4003, b.count(12));
        DUE.is("19: the oldest of the latest 4000", 1, b.letter(0));
        DUE.is("19: the next one", 2, b.letter(1));
        DUE.is("19: the latest", 4000 & 255, b.letter(3999));
        DUE.is("19: no more than 4000", -1, b.letter(4000));
        b.step(3 * 1600);
        b.step(3 * 1600);
        b.step(3 * 1000);
        DUE.is("19: the oldest, once more round", (4203 - 2) & 255, b.letter(0));
        DUE.is("19: the latest, once more round", 8200 & 255, b.letter(3999));
        for (int i : new int[] {-1, 4000, FAR[0], FAR[3]}) {
            DUE.is("19: letter " + i, -1, b.letter(i));
        }
    }
}
