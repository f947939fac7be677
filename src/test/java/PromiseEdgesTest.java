/**
 * The boundary cases that promises 1 to 19 name, a method for each sentence, which stands above
 * it; no object here has more than 512 calls.
 */
public final class PromiseEdgesTest {
    private static final Due DUE = new Due();
    private static final int MIN = Integer.MIN_VALUE;
    private static final int MAX = Integer.MAX_VALUE;
    /** Wrong everywhere where a number is looked for. */
    private static final int[] FAR = {MIN, MIN + 1, -65536, MAX - 1, MAX};

    public static void main(String[] args) {
        newObjectIsReset();
        newObjectIsEmpty();
        resetBeginsAnew();
        resetLeavesTheRest();
        resetOfANewObject();
        pokeInside();
        pokeOutside();
        peekEdges();
        storeInside();
        storeOutside();
        storedOutside();
        keyTakesLowestBits();
        keyIsRefused();
        stepNumbers();
        stepStops();
        runNumbers();
        runEnds();
        runStops();
        stopAtNumbers();
        stopAtNone();
        registersInside();
        registersOutside();
        putR15();
        entryEdges();
        deviceEdges();
        deviceChangesNothing();
        allowedEdges();
        countEdges();
        countFromTheBeginning();
        lookEdges();
        placeEdges();
        letterOfFew();
        letterOf4000();
        refusedCallsChangeNothing();
        DUE.end();
    }

    /** A board with something in every corner: all devices under way, RX 1, a FIELD, a byte of OUT. */
    private static Bench used() {
        Bench x = new Bench();
        x.write(0x3400000, 16 << 26 | 0x155);
        x.wait(19996);
        x.writeDevice(0x80006, 8);
        x.map(15, 8191, 3);
        x.write(0x3400000, 56 << 26 | 8);
        x.write(0x3400000, 3 << 26 | 5);
        for (int k : new int[] {0, 1, 2}) {
            x.write(0x3600000 | k << 17 | (k + 7) << 2, 0);
        }
        x.write(0x36E1400, 0);
        for (int k : new int[] {1, 10, 14, 16, 17, 18, 19, 20, 21, 22, 23}) {
            x.writeDevice(0x80000 + k, 0x41);
        }
        x.writeDevice(0x4000, 15);
        x.writeDevice(0x4001, 14);
        x.writeDevice(0x4002, 2);
        x.board.key(0x77);
        for (int[] own : Snapshot.REGISTERS) {
            for (int r = own[1]; r < 15; r++) {
                x.put(own[0], r, 1000 + 100 * own[0] + r);
            }
        }
        x.board.poke(0, 11, 12);
        x.board.poke(16382, 13, 14);
        x.board.store(0, 0, 15);
        x.board.store(15, 1023, 16);
        x.put(0, 15, Code.N | Code.C | Code.FIQ | 0x2000100);
        return x;
    }

    // ---- promises 1 and 2

    /** "RESET: all registers are 0, then the MODE is SVC, F and I are 1." */
    private static void newObjectIsReset() {
        PageBoard b = new PageBoard();
        for (int mode = 0; mode < 4; mode++) {
            for (int r = 0; r < 15; r++) {
                DUE.is("1: register " + mode + " " + r, 0, b.register(mode, r));
            }
            DUE.is("1: R15 of " + mode, Code.F | Code.I | Code.SVC, b.register(mode, 15));
        }
    }

    /** "MEMORY, SECTORS and the PICTURE are 0, OUT is empty, nothing is counted." */
    private static void newObjectIsEmpty() {
        PageBoard b = new PageBoard();
        for (int k = 0; k < 16; k++) {
            DUE.is("1: first of PAGE " + k, 0, b.peek(1024 * k));
            DUE.is("1: last of PAGE " + k, 0, b.peek(1024 * k + 1023));
            DUE.is("1: first of SECTOR " + k, 0, b.stored(k, 0));
            DUE.is("1: last of SECTOR " + k, 0, b.stored(k, 1023));
        }
        for (int y = 0; y < 32; y++) {
            DUE.is("1: row " + y, 0, b.place(0, y) | b.place(31, y) | b.place(63, y));
        }
        for (int i : new int[] {0, 1, 3999, 4000}) {
            DUE.is("1: letter " + i, PageBoard.NONE, b.letter(i));
        }
        for (int what = 0; what <= 12; what++) {
            DUE.is("1: count " + what, 0, b.count(what));
        }
    }

    /** "RESET: registers, ENTRIES and devices begin anew" */
    private static void resetBeginsAnew() {
        Bench x = used();
        x.board.reset();
        Snapshot.ofBegun(x.board).isStill(DUE, "2: begun anew", Snapshot.ofBegun(new PageBoard()));
    }

    /** "MEMORY, SECTORS, the PICTURE, OUT, stopAt() and all that is counted stay." */
    private static void resetLeavesTheRest() {
        Bench x = used();
        x.board.poke(0, Code.NEVER, Code.NEVER);
        x.board.stopAt(4);
        Snapshot then = Snapshot.ofKept(x.board);
        x.board.reset();
        Snapshot.ofKept(x.board).isStill(DUE, "2: stays", then);
        DUE.is("2: the PICTURE was not empty", 0x155, x.board.place(63, 31));
        DUE.is("2: OUT was not empty", 0x41, x.board.letter(0));
        DUE.is("2: stopAt() stays", 1, x.board.step(5));
    }

    private static void resetOfANewObject() {
        PageBoard b = new PageBoard();
        Snapshot then = new Snapshot(b);
        b.reset();
        new Snapshot(b).isStill(DUE, "2: RESET of a new object", then);
    }

    // ---- promises 3 to 6

    /** "Words i and i + 1 of MEMORY (0 .. 16383): true" */
    private static void pokeInside() {
        PageBoard b = new PageBoard();
        DUE.isTrue("3: the first two", b.poke(0, MIN, MAX));
        DUE.isTrue("3: the last two", b.poke(16382, -1, -2));
        DUE.is("3: word 0", MIN, b.peek(0));
        DUE.is("3: word 1", MAX, b.peek(1));
        DUE.is("3: not word 2", 0, b.peek(2));
        DUE.is("3: not word 16381", 0, b.peek(16381));
        DUE.is("3: word 16382", -1, b.peek(16382));
        DUE.is("3: word 16383", -2, b.peek(16383));
    }

    /** "false, changing nothing, if there is no i or no i + 1." */
    private static void pokeOutside() {
        PageBoard b = new PageBoard();
        b.poke(0, 1, 2);
        b.poke(16382, 3, 4);
        DUE.isFalse("3: no i, but i + 1", b.poke(-1, 8, 9));
        DUE.isFalse("3: i, but no i + 1", b.poke(16383, 8, 9));
        DUE.isFalse("3: neither", b.poke(16384, 8, 9));
        DUE.isFalse("3: neither", b.poke(-2, 8, 9));
        for (int far : FAR) {
            DUE.isFalse("3: poke " + far, b.poke(far, 8, 9));
        }
        DUE.is("3: word 0 stays", 1, b.peek(0));
        DUE.is("3: word 1 stays", 2, b.peek(1));
        DUE.is("3: word 16382 stays", 3, b.peek(16382));
        DUE.is("3: word 16383 stays", 4, b.peek(16383));
    }

    /** "Word i of MEMORY. IndexOutOfBoundsException: there is none." */
    private static void peekEdges() {
        PageBoard b = new PageBoard();
        b.poke(0, 5, 6);
        b.poke(16382, 7, 8);
        DUE.is("4: the first", 5, b.peek(0));
        DUE.is("4: the last", 8, b.peek(16383));
        DUE.throwsA(IndexOutOfBoundsException.class, "4: peek -1", () -> b.peek(-1));
        DUE.throwsA(IndexOutOfBoundsException.class, "4: peek 16384", () -> b.peek(16384));
        for (int far : FAR) {
            DUE.throwsA(IndexOutOfBoundsException.class, "4: peek " + far, () -> b.peek(far));
        }
    }

    /** "Word i of a SECTOR becomes v: true" */
    private static void storeInside() {
        PageBoard b = new PageBoard();
        for (int sector = 0; sector < 16; sector++) {
            DUE.isTrue("5: the first of " + sector, b.store(sector, 0, 100 + sector));
            DUE.isTrue("5: the last of " + sector, b.store(sector, 1023, -100 - sector));
        }
        for (int sector = 0; sector < 16; sector++) {
            DUE.is("6: the first of " + sector, 100 + sector, b.stored(sector, 0));
            DUE.is("6: not the second of " + sector, 0, b.stored(sector, 1));
            DUE.is("6: not the last but one of " + sector, 0, b.stored(sector, 1022));
            DUE.is("6: the last of " + sector, -100 - sector, b.stored(sector, 1023));
        }
        DUE.is("5: MEMORY stays", 0, b.peek(0));
    }

    private static final int[][] NO_WORDS = {
        {-1, 0}, {-1, 1024}, {16, 0}, {16, -1}, {0, -1}, {1, -1}, {0, 1024}, {14, 1024}, {15, 1024}, {16, 1024},
        {MIN, 0}, {MAX, 0}, {0, MIN}, {0, MAX}, {MIN, MIN}, {MAX, MAX}, {1 << 22, 0}, {1 << 28, 5},
    };

    /** "false if there is none such." */
    private static void storeOutside() {
        PageBoard b = new PageBoard();
        for (int[] w : NO_WORDS) {
            DUE.isFalse("5: store " + w[0] + " " + w[1], b.store(w[0], w[1], 9));
        }
        for (int sector = 0; sector < 16; sector++) {
            DUE.is("5: the first of " + sector + " stays", 0, b.stored(sector, 0));
            DUE.is("5: the last of " + sector + " stays", 0, b.stored(sector, 1023));
        }
    }

    /** "IndexOutOfBoundsException: there is none." */
    private static void storedOutside() {
        PageBoard b = new PageBoard();
        for (int[] w : NO_WORDS) {
            DUE.throwsA(IndexOutOfBoundsException.class, "6: stored " + w[0] + " " + w[1], () -> b.stored(w[0], w[1]));
        }
    }

    // ---- promise 7

    /** "A byte (its lowest 8 bits) comes by the serial port: it is the one that came last, RX is 1: true" */
    private static void keyTakesLowestBits() {
        int[] given = {0, 1, 255, 256, -1, -256, MIN, MAX, 0x12345678};
        int[] bytes = {0, 1, 255, 0, 255, 0, 0, 255, 0x78};
        Bench x = new Bench();
        for (int k = 0; k < given.length; k++) {
            DUE.isTrue("7: key " + given[k], x.board.key(given[k]));
            DUE.is("7: RX and TX", 128 + 64, x.board.device(0x80008));
            DUE.is("7: the byte of " + given[k], bytes[k], x.read(Bench.device(0x80001)));
            DUE.is("7: RX is 0", 64, x.board.device(0x80008));
        }
    }

    /** "false, changing nothing, if RX is 1." */
    private static void keyIsRefused() {
        Bench x = new Bench();
        DUE.isTrue("7: a byte 0 makes RX 1, too", x.board.key(0));
        Snapshot then = new Snapshot(x.board);
        DUE.isFalse("7: another one", x.board.key(7));
        DUE.isFalse("7: the same one", x.board.key(0));
        new Snapshot(x.board).isStill(DUE, "7: refused", then);
        x.read(Bench.device(0x80001));
        DUE.isTrue("7: once it is read", x.board.key(8));
        x.board.reset();
        DUE.isTrue("7: behind RESET", x.board.key(9));
        DUE.isFalse("7: and no more", x.board.key(10));
        DUE.is("7: the one that came last", 9, x.board.device(0x80001));
    }

    // ---- promises 8 to 10

    /** Never so, from word 0 on, as far as it is needed here. */
    private static PageBoard idle() {
        PageBoard b = new PageBoard();
        for (int i = 0; i < 32; i += 2) {
            b.poke(i, Code.NEVER, Code.NEVER);
        }
        return b;
    }

    /** "n STEPS (1 .. 5000)"; "IllegalArgumentException: another n." */
    private static void stepNumbers() {
        PageBoard b = new PageBoard();
        for (int n : new int[] {0, -1, 5001, MIN, MAX}) {
            DUE.throwsA(IllegalArgumentException.class, "8: step " + n, () -> b.step(n));
        }
        DUE.is("8: no STEP was done", 0, b.count(1) + b.count(0));
        DUE.is("8: PC stays", Bench.QUIET, b.register(0, 15));
        DUE.is("8: the fewest", 1, b.step(1));
        DUE.is("8: one STEP", 1, b.count(1));
        b.put(0, 15, Bench.QUIET | 0x3000000);
        DUE.is("8: the most", 5000, b.step(5000));
        DUE.is("8: 5000 STEPS", 5001, b.count(1));
        DUE.is("8: PC behind them", Bench.QUIET | 0x3000000 + 20000, b.register(0, 15));
    }

    /** "fewer if behind one PC is the ADDRESS of stopAt(): how many." */
    private static void stepStops() {
        PageBoard b = idle();
        b.stopAt(16);
        DUE.is("8: fewer", 4, b.step(5000));
        DUE.is("8: PC is there", Bench.QUIET | 16, b.register(0, 15));
        DUE.is("8: ahead of the first STEP it is not asked", 2, b.step(2));
        b.put(0, 15, Bench.QUIET | 12);
        DUE.is("8: behind the first", 1, b.step(9));
        b.put(0, 15, Bench.QUIET);
        DUE.is("8: behind the last one", 4, b.step(4));
        b.put(0, 15, Bench.QUIET);
        DUE.is("8: not as far", 3, b.step(3));
        b.poke(4, Code.STAY, Code.NEVER);
        DUE.is("8: then there", 1, b.step(3));
        DUE.is("8: a STEP from there to there", 1, b.step(3));
        b.stopAt(8);
        b.poke(4, Code.SWI, Code.NEVER);
        DUE.is("8: a TRAP's VECTOR", 1, b.step(3));
        b.put(0, 15, 0xFC000003);
        DUE.is("8: SIGNS are not asked", 2, b.step(9));
    }

    /** "(1 .. 20000)"; "IllegalArgumentException: another number." */
    private static void runNumbers() {
        PageBoard b = new PageBoard();
        for (int n : new int[] {0, -1, 20001, MIN, MAX}) {
            DUE.throwsA(IllegalArgumentException.class, "9: run " + n, () -> b.run(n));
        }
        DUE.is("9: no STEP was done", 0, b.count(1) + b.count(0));
        DUE.is("9: PC stays", Bench.QUIET, b.register(0, 15));
        DUE.is("9: the fewest", 1, b.run(1));
        DUE.is("9: one TICK", 1, b.count(0));
        b.put(0, 15, Bench.QUIET | 0x3000000);
        DUE.is("9: the most", 20000, b.run(20000));
        DUE.is("9: 20000 TICKS", 20001, b.count(0));
        DUE.is("9: 20000 STEPS", 20001, b.count(1));
    }

    /** "STEPS until so many TICKS (1 .. 20000) or more have gone by in them" */
    private static void runEnds() {
        PageBoard b = new PageBoard();
        b.poke(0, Code.STAY, 0);
        DUE.is("9: 4 TICKS are more than 1", 1, b.run(1));
        DUE.is("9: 4 TICKS are more than 3", 1, b.run(3));
        DUE.is("9: just so many", 1, b.run(4));
        DUE.is("9: one TICK more is one STEP more", 2, b.run(5));
        DUE.is("9: TICKS that were too many are not kept", 2, b.run(8));
        DUE.is("9: TICKS", 28, b.count(0));
        DUE.is("9: up to 19999", 5000, b.run(19999));
        DUE.is("9: up to 20000", 5000, b.run(20000));
        // R0 .. R15 from word 64 on: 21 TICKS, and back to ADDRESS 0.
        b.poke(0, Code.many(Code.L | Code.P | Code.U, 15, 0, 1, 2, 3, 4, 5, 6, 7, 8, 9, 10, 11, 12, 13, 14, 15), 0);
        DUE.is("9: 21 TICKS are as many", 1, b.run(21));
        b.put(0, 15, Bench.QUIET);
        DUE.is("9: 21 TICKS are too few for 22", 2, b.run(22));
    }

    /** "or behind one PC is the ADDRESS of stopAt(): how many." */
    private static void runStops() {
        PageBoard b = idle();
        b.stopAt(12);
        DUE.is("9: fewer", 3, b.run(20000));
        DUE.is("9: three TICKS", 3, b.count(0));
        DUE.is("9: ahead of the first STEP it is not asked", 2, b.run(2));
        b.put(0, 15, Bench.QUIET | 8);
        DUE.is("9: behind the first", 1, b.run(20000));
        b.put(0, 15, Bench.QUIET);
        DUE.is("9: both ends at once", 3, b.run(3));
        b.put(0, 15, Bench.QUIET);
        DUE.is("9: not as far", 2, b.run(2));
        b.poke(2, Code.STAY, Code.STAY);
        b.stopAt(8);
        DUE.is("9: from there to there", 1, b.run(20000));
    }

    /** "(its bits 0, 1 as 0)"; "false, changing nothing, for another number below 0, or from 2^26 on." */
    private static void stopAtNumbers() {
        PageBoard b = idle();
        for (int address = 8; address < 12; address++) {
            DUE.isTrue("10: stopAt " + address, b.stopAt(address));
            b.put(0, 15, Bench.QUIET);
            DUE.is("10: as 8", 2, b.step(9));
        }
        for (int wrong : new int[] {-2, -3, -4, 0x4000000, 0x4000008, MIN, MIN + 8, MAX}) {
            DUE.isFalse("10: stopAt " + wrong, b.stopAt(wrong));
            b.put(0, 15, Bench.QUIET);
            DUE.is("10: still 8 behind " + wrong, 2, b.step(9));
        }
        for (int address : new int[] {0x3FFFFFC, 0x3FFFFFF}) {
            DUE.isTrue("10: the last ADDRESS", b.stopAt(address));
            b.put(0, 15, Bench.QUIET | 0x3FFFFF4);
            DUE.is("10: is reached", 2, b.step(9));
        }
        for (int address : new int[] {0, 3}) {
            DUE.isTrue("10: the first ADDRESS", b.stopAt(address));
            b.put(0, 15, Bench.QUIET | 0x3FFFFF4);
            DUE.is("10: is reached", 3, b.step(9));
        }
    }

    /** "NONE: they do not (as at first): true" */
    private static void stopAtNone() {
        PageBoard b = idle();
        b.put(0, 15, Bench.QUIET | 0x3FFFFF8);
        DUE.is("10: at first they do not", 9, b.step(9));
        b.stopAt(8);
        DUE.isTrue("10: NONE", b.stopAt(PageBoard.NONE));
        b.put(0, 15, Bench.QUIET | 0x3FFFFF8);
        DUE.is("10: step does not", 9, b.step(9));
        b.put(0, 15, Bench.QUIET | 0x3FFFFF8);
        DUE.is("10: run does not", 9, b.run(9));
        DUE.isTrue("10: NONE once more", b.stopAt(PageBoard.NONE));
        b.stopAt(8);
        b.put(0, 15, Bench.QUIET);
        DUE.is("10: it can be told again", 2, b.run(9));
    }

    // ---- promises 11 and 12

    /** "Register r (0 .. 15) of a MODE (0 .. 3)"; "It becomes v": each has the place of its own that the terms tell. */
    private static void registersInside() {
        for (int mode = 0; mode < 4; mode++) {
            for (int r = 0; r < 15; r++) {
                PageBoard b = new PageBoard();
                DUE.isTrue("12: put " + mode + " " + r, b.put(mode, r, MIN + 5));
                for (int other = 0; other < 4; other++) {
                    for (int s = 0; s < 15; s++) {
                        boolean same = r == s && owner(mode, r) == owner(other, s);
                        DUE.is("11: register " + other + " " + s, same ? MIN + 5 : 0, b.register(other, s));
                    }
                }
            }
        }
    }

    private static int owner(int mode, int r) {
        return r >= 13 || r >= 8 && mode == Code.FIQ ? mode : Code.USER;
    }

    private static final int[][] NO_REGISTERS = {
        {-1, 0}, {4, 0}, {0, -1}, {0, 16}, {3, 16}, {1, -1}, {-1, 15}, {4, 15}, {-1, 16}, {4, -1},
        {MIN, 0}, {MAX, 0}, {0, MIN}, {0, MAX}, {MIN, MIN}, {MAX, MAX},
    };

    /** "IndexOutOfBoundsException: there is none."; "false if there is none." */
    private static void registersOutside() {
        PageBoard b = new PageBoard();
        for (int[] w : NO_REGISTERS) {
            DUE.isFalse("12: put " + w[0] + " " + w[1], b.put(w[0], w[1], 9));
            DUE.throwsA(IndexOutOfBoundsException.class, "11: register " + w[0] + " " + w[1],
                () -> b.register(w[0], w[1]));
        }
        Snapshot.ofBegun(b).isStill(DUE, "12: refused", Snapshot.ofBegun(new PageBoard()));
    }

    /** "15 as it is"; "15 with all bits" */
    private static void putR15() {
        PageBoard b = new PageBoard();
        for (int v : new int[] {0, -1, 1, 2, 3, MIN, MAX, 0x03FFFFFC, ~0x03FFFFFC}) {
            for (int mode = 0; mode < 4; mode++) {
                // From USER, too, all bits are put.
                b.put(0, 15, 0);
                DUE.isTrue("12: R15 of " + mode, b.put(mode, 15, v));
                DUE.is("11: R15 is one for all", v, b.register(3 - mode, 15));
            }
        }
    }

    // ---- promises 13 to 15

    /** "Of ENTRY e what 0 its NUMBER (NONE without), 1 its LEVEL; NONE for another e or what." */
    private static void entryEdges() {
        Bench x = new Bench();
        x.map(0, 8191, 3);
        x.map(15, 0, 2);
        x.write(0x3800000 | 1 << 8 | 1 << 4 | 7, 0);
        DUE.is("13: the largest NUMBER", 8191, x.board.entry(0, 0));
        DUE.is("13: the largest LEVEL", 3, x.board.entry(0, 1));
        DUE.is("13: NUMBER 0", 0, x.board.entry(15, 0));
        DUE.is("13: the last LEVEL", 2, x.board.entry(15, 1));
        DUE.is("13: NONE without", PageBoard.NONE, x.board.entry(7, 0));
        DUE.is("13: LEVEL without NUMBER", 1, x.board.entry(7, 1));
        int[][] wrong = {{-1, 0}, {-1, 1}, {16, 0}, {16, 1}, {0, -1}, {0, 2}, {15, 2}, {15, -1}, {16, 2},
            {MIN, 0}, {MAX, 1}, {0, MIN}, {0, MAX}};
        for (int[] w : wrong) {
            DUE.is("13: entry " + w[0] + " " + w[1], PageBoard.NONE, x.board.entry(w[0], w[1]));
        }
    }

    /** "Word w of DEVICES (0 .. 0xFFFFF) as a read would give it"; "NONE for another w." */
    private static void deviceEdges() {
        Bench x = used();
        DUE.is("14: the first", 0, x.board.device(0));
        DUE.is("14: the last", 0, x.board.device(0xFFFFF));
        for (int w : new int[] {-1, 0x100000, 0x104000, 0x180001, MIN, MIN + 0x4000, MAX}) {
            DUE.is("14: device " + w, PageBoard.NONE, x.board.device(w));
        }
        for (int k = 0; k < 3; k++) {
            DUE.is("14: DISK " + k, new int[] {15, 14, 1}[k], x.board.device(0x4000 + k));
        }
        DUE.is("14: ahead of the DISK's words", 0, x.board.device(0x3FFF));
        DUE.is("14: behind them", 0, x.board.device(0x4003));
        DUE.is("14: ahead of the controller's words", 0, x.board.device(0x7FFFF));
        DUE.is("14: their first", 0, x.board.device(0x80000));
        DUE.is("14: their last but two: SEEN of TIMER 1", 0, x.board.device(0x80017));
        DUE.is("14: behind them", 0, x.board.device(0x80018));
        for (int k = 0; k < 24; k++) {
            DUE.is("14: a read gives the same of " + k, x.board.device(0x80000 + k), x.read(Bench.device(0x80000 + k)));
        }
    }

    /** "but changing nothing" */
    private static void deviceChangesNothing() {
        Bench x = new Bench();
        x.board.key(65);
        x.writeDevice(0x4002, 3);
        for (int k = 0; k < 2; k++) {
            DUE.is("14: SERIAL", 65, x.board.device(0x80001));
            DUE.is("14: RX, TX and DISK stay", 128 + 64 + 8, x.board.device(0x80008));
            DUE.is("14: WRONG", 2, x.board.device(0x4002));
            DUE.is("14: DISK of F stays", 128 + 1, x.board.device(0x8000C));
        }
    }

    /** "1, else 0; NONE for another what, MODE, or an ADDRESS below 0 or from 2^26 on." */
    private static void allowedEdges() {
        PageBoard b = new PageBoard();
        int[] addresses = {-1, 0, 3, 4095, 4096, 0x1FFFFFF, 0x2000000, 0x2FFFFFF, 0x3000000, 0x3FFFFFF, 0x4000000, MIN, MAX};
        int[] ofUser = {-1, 1, 1, 1, 0, 0, 0, 0, 0, 0, -1, -1, -1};
        int[] ofOthers = {-1, 1, 1, 1, 0, 0, 1, 1, 1, 1, -1, -1, -1};
        for (int k = 0; k < addresses.length; k++) {
            for (int mode = -1; mode <= 4; mode++) {
                for (int what = -1; what <= 2; what++) {
                    boolean none = mode < 0 || mode > 3 || what < 0 || what > 1;
                    int want = none ? PageBoard.NONE : mode == 0 ? ofUser[k] : ofOthers[k];
                    DUE.is("15: allowed " + mode + " " + addresses[k] + " " + what, want,
                        b.allowed(mode, addresses[k], what));
                }
            }
        }
        for (int far : FAR) {
            DUE.is("15: MODE " + far, PageBoard.NONE, b.allowed(far, 0, 0));
            DUE.is("15: what " + far, PageBoard.NONE, b.allowed(3, 0, far));
        }
    }

    // ---- promises 16 and 17

    /** "NONE for another what." */
    private static void countEdges() {
        PageBoard b = used().board;
        for (int what : new int[] {-1, -2, 13, 14, 16, MIN, MAX}) {
            DUE.is("16: count " + what, PageBoard.NONE, b.count(what));
        }
        DUE.is("16: the first", 20088, b.count(0));
        DUE.is("16: the last", 1, b.count(12));
    }

    /** "Counted from the beginning": each what by itself, and RESET begins none of them anew. */
    private static void countFromTheBeginning() {
        int[] due = new int[13];
        Bench x = new Bench();
        int[] words = {Code.UNDEFINED, Code.SWI, 0, Code.one(Code.P | Code.L, 1, 0, 0), Code.one(Code.P | Code.L, 1, 2, 0)};
        for (int round = 1; round <= 2; round++) {
            for (int trap = 0; trap < 5; trap++) {
                x.put(3, 0, 0x1000);
                x.put(3, 2, 0x4000000);
                // PREFETCH by an ADDRESS without PAGE.
                x.doesAt(trap == 2 ? 0x1000 : Bench.AT, Bench.QUIET, words[trap]);
                due[2 + trap]++;
                countsAre(x.board, due, 2);
            }
            x.writeDevice(0x80006, 0x80);
            x.does(Code.SVC | Code.F, Code.SWI);
            due[7]++;
            countsAre(x.board, due, 2);
            x.writeDevice(0x8000E, 0x80);
            x.does(Code.SVC | Code.I, Code.SWI);
            due[8]++;
            countsAre(x.board, due, 2);
            x.does(Bench.QUIET, Code.NEVER);
            due[10]++;
            countsAre(x.board, due, 2);
            x.writeDevice(0x80001, 5);
            due[12]++;
            countsAre(x.board, due, 2);
            x.board.reset();
            countsAre(x.board, due, 2);
        }
        x.writeDevice(0x4002, 1);
        x.waitByFours(4996);
        due[11] += 1024;
        countsAre(x.board, due, 2);
        x.waitByFours(15000);
        due[9]++;
        countsAre(x.board, due, 2);
    }

    private static void countsAre(PageBoard b, int[] due, int from) {
        for (int what = from; what < due.length; what++) {
            DUE.is("16: count " + what, due[what], b.count(what));
        }
    }

    /** "NONE for another what." and "9 TICKS up to when the DISK is ready (0 if not BUSY), 10 up to when TX is 1 (0 if it is)" */
    private static void lookEdges() {
        Bench x = new Bench();
        for (int what : new int[] {-1, -16, 14, 15, 32, 33, MIN, MIN + 16, MAX}) {
            DUE.is("17: look " + what, PageBoard.NONE, x.board.look(what));
        }
        x.write(0x3400000, 0 << 26 | 0x1FFF);
        x.write(0x3400000, 15 << 26 | 0x1FFE);
        DUE.is("17: the first COLOUR", 0x1FFF, x.board.look(16));
        DUE.is("17: the last COLOUR", 0x1FFE, x.board.look(31));
        DUE.is("17: not BUSY", 0, x.board.look(9));
        DUE.is("17: TX is 1", 0, x.board.look(10));
        x.writeDevice(0x4002, 2);
        x.writeDevice(0x80001, 2);
        DUE.is("17: BUSY", 4992, x.board.look(9));
        DUE.is("17: TX is 0", 252, x.board.look(10));
        x.wait(251);
        DUE.is("17: one TICK up to TX", 1, x.board.look(10));
        x.wait(1);
        DUE.is("17: TX is 1 again", 0, x.board.look(10));
        x.wait(4992 - 253);
        DUE.is("17: one TICK up to the end", 1, x.board.look(9));
        x.wait(1);
        DUE.is("17: not BUSY any more", 0, x.board.look(9));
        int left = x.board.look(11);
        x.wait(left - 1);
        DUE.is("17: one TICK up to the FIELD's end", 1, x.board.look(11));
        x.wait(1);
        DUE.is("17: a whole FIELD", 20000, x.board.look(11));
        x.wait(1);
        DUE.is("17: and so on", 19999, x.board.look(11));
    }

    // ---- promises 18 and 19

    /** "The colour of place x (0 .. 63) of row y (0 .. 31) of the latest PICTURE; NONE if there is none." */
    private static void placeEdges() {
        Bench x = new Bench();
        x.write(0x3400000, 16 << 26 | 0x0AAA);
        x.wait(20000);
        int[][] inside = {{0, 0}, {63, 0}, {0, 31}, {63, 31}};
        for (int[] p : inside) {
            DUE.is("18: place " + p[0] + " " + p[1], 0x0AAA, x.board.place(p[0], p[1]));
        }
        int[][] outside = {{-1, 0}, {-1, 1}, {64, 0}, {64, 30}, {0, -1}, {0, 32}, {63, -1}, {-64, 1}, {128, -1}, {64, 31},
            {MIN, 0}, {MAX, 0}, {0, MIN}, {0, MAX}, {MIN, MIN}, {MAX, MAX}, {0, 1 << 26}};
        for (int[] p : outside) {
            DUE.is("18: place " + p[0] + " " + p[1], PageBoard.NONE, x.board.place(p[0], p[1]));
        }
    }

    /** "Byte i of OUT"; "NONE if there is none." */
    private static void letterOfFew() {
        Bench x = new Bench();
        DUE.is("19: of nothing", PageBoard.NONE, x.board.letter(0));
        x.writeDevice(0x80001, 0xFFFFFF00);
        DUE.is("19: a byte 0", 0, x.board.letter(0));
        DUE.is("19: no second", PageBoard.NONE, x.board.letter(1));
        x.writeDevice(0x80001, 0x1FF);
        DUE.is("19: a byte 255", 255, x.board.letter(1));
        DUE.is("19: no third", PageBoard.NONE, x.board.letter(2));
        for (int i : new int[] {-1, 3999, 4000, MIN, MAX}) {
            DUE.is("19: letter " + i, PageBoard.NONE, x.board.letter(i));
        }
    }

    /** Bytes 0, 1, 2 .. (modulo 251) come to OUT, 5 STEPS each. */
    private static Bench sender() {
        Bench x = new Bench();
        x.poke(64, Code.one(Code.P | Code.U | Code.B, 0, 1, 0));
        x.poke(65, Code.work(Code.ADD, 0, 0, 0, Code.turned(1, 0)));
        x.poke(66, Code.work(Code.CMP, Code.S, 0, 0, Code.turned(251, 0)));
        x.poke(67, Code.when(0, Code.work(Code.MOV, 0, 0, 0, Code.turned(0, 0))));
        x.poke(68, Code.branch(-6));
        x.put(3, 0, 0);
        x.put(3, 1, Bench.device(0x80001));
        x.put(3, 15, Bench.QUIET | 0x100);
        return x;
    }

    private static void send(Bench x, int bytes) {
        for (int sent = 0; sent < bytes; sent += 1000) {
            x.board.step(5 * Math.min(1000, bytes - sent));
        }
    }

    /** "of which the latest 4000 are kept (0: the oldest of these)" */
    private static void letterOf4000() {
        Bench x = sender();
        int came = 0;
        for (int more : new int[] {3999, 1, 1, 94, 1, 1, 3902, 1, 95, 96, 1}) {
            send(x, more);
            came += more;
            DUE.is("19: so many came", came, x.board.count(12));
            int kept = Math.min(came, 4000);
            DUE.is("19: the oldest of " + came, (came - kept) % 251, x.board.letter(0));
            DUE.is("19: the next one of " + came, (came - kept + 1) % 251, x.board.letter(1));
            DUE.is("19: one in the middle of " + came, (came - kept + 2000) % 251, x.board.letter(2000));
            DUE.is("19: the latest of " + came, (came - 1) % 251, x.board.letter(kept - 1));
            DUE.is("19: no more of " + came, PageBoard.NONE, x.board.letter(kept));
        }
        x.board.reset();
        DUE.is("19: behind RESET the latest one", (came - 1) % 251, x.board.letter(3999));
    }

    // ---- all of them

    /** "false, changing nothing", "NONE for another ..", and exceptions: whatever is refused leaves the board as it is. */
    private static void refusedCallsChangeNothing() {
        Bench x = used();
        PageBoard b = x.board;
        Snapshot then = new Snapshot(b);
        b.poke(-1, 1, 2);
        b.poke(16383, 1, 2);
        b.store(16, 0, 1);
        b.store(0, -1, 1);
        b.key(1);
        b.stopAt(-2);
        b.stopAt(1 << 26);
        b.put(4, 0, 1);
        b.put(0, 16, 1);
        b.entry(16, 0);
        b.device(-1);
        b.allowed(4, 0, 0);
        b.count(13);
        b.look(14);
        b.place(64, 0);
        b.letter(4000);
        DUE.throwsA(IndexOutOfBoundsException.class, "4: peek", () -> b.peek(16384));
        DUE.throwsA(IndexOutOfBoundsException.class, "6: stored", () -> b.stored(0, 1024));
        DUE.throwsA(IllegalArgumentException.class, "8: step", () -> b.step(5001));
        DUE.throwsA(IllegalArgumentException.class, "9: run", () -> b.run(20001));
        DUE.throwsA(IndexOutOfBoundsException.class, "11: register", () -> b.register(-1, 0));
        new Snapshot(b).isStill(DUE, "refused", then);
    }
}
