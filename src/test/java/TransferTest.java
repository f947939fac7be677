/** TRANSFER of one and of many, one instruction at a time (promises 8, 11). */
public final class TransferTest {
    private static final Due DUE = new Due();
    private static final int FLAGS = Code.N | Code.C;

    public static void main(String[] args) {
        offsets();
        wordsAndBytes();
        writingBack();
        r15OfOne();
        trapsOfOne();
        asForUser();
        beginnings();
        baseInTheList();
        r15OfMany();
        registersOfUser();
        trapsOfMany();
        wrappingOfMany();
        pagesFoundAhead();
        DUE.end();
    }

    /** Where a byte was put: the one byte from 0x200 on that is not 0. */
    private static int storedAt(int signs, int bits, int base, int offset) {
        Bench x = new Bench();
        x.put(3, 0, 0xFF);
        x.put(3, 2, base);
        x.put(3, 4, 16);
        x.put(3, 5, 0x80000001);
        DUE.is("TICKS of a store", 4, x.does(Bench.QUIET | signs, Code.one(bits | Code.B, 0, 2, offset)));
        for (int at = 0x200; at < 0x400; at++) {
            if ((x.board.peek(at / 4) >>> at % 4 * 8 & 255) == 255) {
                return at;
            }
        }
        return -1;
    }

    private static void offsets() {
        DUE.is("up", 0x305, storedAt(0, Code.P | Code.U, 0x300, 5));
        DUE.is("down", 0x2FB, storedAt(0, Code.P, 0x300, 5));
        DUE.is("behind: up", 0x300, storedAt(0, Code.U, 0x300, 5));
        DUE.is("behind: down", 0x300, storedAt(0, 0, 0x300, 5));
        DUE.is("12 bits", 0x201, storedAt(0, Code.P, 0x1200, 0xFFF));
        DUE.is("a register", 0x310, storedAt(0, Code.P | Code.U | Code.BY_REGISTER, 0x300, 4));
        DUE.is("a register, down", 0x2F0, storedAt(0, Code.P | Code.BY_REGISTER, 0x300, 4));
        DUE.is("shifted", 0x340, storedAt(0, Code.P | Code.U | Code.BY_REGISTER, 0x300, Code.shifted(4, Code.LSL, 2)));
        DUE.is("shifted by 32", 0x300, storedAt(0, Code.P | Code.U | Code.BY_REGISTER, 0x300, Code.shifted(5, Code.LSR, 0)));
        DUE.is("ASR by 32 is -1", 0x2FF, storedAt(0, Code.P | Code.U | Code.BY_REGISTER, 0x300, Code.shifted(5, Code.ASR, 0)));
        DUE.is("RRX", 0x308, storedAt(0, Code.P | Code.U | Code.BY_REGISTER, 0x300, Code.shifted(4, Code.ROR, 0)));
        DUE.is("RRX with C", 0x308, storedAt(Code.C, Code.P | Code.U | Code.BY_REGISTER, 0x80000300, Code.shifted(4, Code.ROR, 0)));
    }

    private static void wordsAndBytes() {
        Bench x = new Bench();
        x.poke(128, 0x44332211);
        int[] words = {0x44332211, 0x11443322, 0x22114433, 0x33221144};
        int[] bytes = {0x11, 0x22, 0x33, 0x44};
        for (int k = 0; k < 4; k++) {
            x.put(3, 2, 0x200 + k);
            DUE.is("TICKS of L", 4, x.does(Bench.QUIET, Code.one(Code.P | Code.L, 0, 2, 0)));
            DUE.is("a word turned by " + k, words[k], x.get(0));
            DUE.is("TICKS of LB", 4, x.does(Bench.QUIET, Code.one(Code.P | Code.L | Code.B, 0, 2, 0)));
            DUE.is("byte " + k, bytes[k], x.get(0));
        }
        DUE.is("it is still the same", 0x44332211, x.board.peek(128));
        for (int k = 0; k < 4; k++) {
            x.poke(128, 0x44332211);
            x.put(3, 0, 0xABCDEF99);
            x.put(3, 2, 0x200 + k);
            x.does(Bench.QUIET, Code.one(Code.P | Code.B, 0, 2, 0));
            DUE.is("byte " + k + " is put", 0x44332211 & ~(255 << 8 * k) | 0x99 << 8 * k, x.board.peek(128));
            x.does(Bench.QUIET, Code.one(Code.P, 0, 2, 0));
            DUE.is("a word is put by bits 0, 1 as 0", 0xABCDEF99, x.board.peek(128));
            DUE.is("the next one is not touched", 0, x.board.peek(129));
        }
    }

    private static int baseBehind(int bits, int d) {
        Bench x = new Bench();
        x.poke(0x300 / 4, 0x777);
        x.poke(0x308 / 4, 0x888);
        x.put(3, 2, 0x300);
        x.does(Bench.QUIET, Code.one(bits, d, 2, 8));
        return x.get(2);
    }

    private static void writingBack() {
        DUE.is("P", 0x300, baseBehind(Code.P | Code.U, 0));
        DUE.is("P and W", 0x308, baseBehind(Code.P | Code.U | Code.W, 0));
        DUE.is("P and W, down", 0x2F8, baseBehind(Code.P | Code.W, 0));
        DUE.is("no P", 0x308, baseBehind(Code.U, 0));
        DUE.is("no P, down", 0x2F8, baseBehind(0, 0));
        DUE.is("no P, and W", 0x308, baseBehind(Code.U | Code.W, 0));
        DUE.is("what L brings counts", 0x777, baseBehind(Code.U | Code.L, 2));
        DUE.is("what L brings counts", 0x888, baseBehind(Code.P | Code.U | Code.W | Code.L, 2));
        Bench x = new Bench();
        x.put(3, 2, 0x300);
        x.does(Bench.QUIET, Code.one(Code.P | Code.U | Code.W, 2, 2, 8));
        DUE.is("Rd is taken first", 0x300, x.board.peek(0x308 / 4));
        x.put(3, 2, 0x300);
        x.put(3, 0, 9);
        x.does(Bench.QUIET, Code.one(0, 0, 2, 0x301));
        DUE.is("a sum below 0 may be written back", -1, x.get(2));
        DUE.is("the ADDRESS was Rn", 9, x.board.peek(0x300 / 4));
        x.does(Bench.QUIET, Code.one(Code.U, 0, 15, 8));
        DUE.is("not to R15", Bench.QUIET | Bench.AT + 4, x.r15());
        DUE.is("it was put at A + 8", 9, x.board.peek((Bench.AT + 8) / 4));
    }

    private static void r15OfOne() {
        Bench x = new Bench();
        x.poke(128, 0xFFFFF00B);
        x.put(3, 2, 0x200);
        DUE.is("PC is put", 7, x.does(Bench.QUIET, Code.one(Code.P | Code.L, 15, 2, 0)));
        DUE.is("PC alone", Bench.QUIET | 0x3FFF008, x.r15());
        DUE.is("PC by a byte", 7, x.does(Bench.QUIET, Code.one(Code.P | Code.L | Code.B, 15, 2, 0)));
        DUE.is("PC is a byte", Bench.QUIET | 8, x.r15());
        DUE.is("R15 is stored", 4, x.does(Bench.QUIET | FLAGS, Code.one(Code.P, 15, 2, 0)));
        DUE.is("A + 12 with all SIGNS", Bench.QUIET | FLAGS | Bench.AT + 12, x.board.peek(128));
        x.poke((Bench.AT + 8 + 16) / 4, 1234);
        x.does(Bench.QUIET | FLAGS, Code.one(Code.P | Code.U | Code.L, 0, 15, 16));
        DUE.is("as Rn it is A + 8", 1234, x.get(0));
        x.put(3, 2, 16);
        x.does(Bench.QUIET | FLAGS, Code.one(Code.P | Code.U | Code.L | Code.BY_REGISTER, 0, 2, 15));
        DUE.is("as Rm it is A + 8", 1234, x.get(0));
    }

    private static void trapsOfOne() {
        for (int bits : new int[] {Code.P | Code.U | Code.W, Code.P | Code.U | Code.W | Code.L, Code.U, Code.U | Code.L}) {
            Bench x = new Bench();
            x.put(3, 0, 5);
            x.put(3, 2, 0x4000000);
            DUE.is("ADDRESS", 4, x.does(Bench.QUIET, Code.one(bits, 0, 2, 4)));
            DUE.is("ADDRESS: count", 1, x.board.count(6));
            DUE.is("ADDRESS: R15", Bench.QUIET | 20, x.r15());
            DUE.is("ADDRESS: R14", Bench.QUIET | Bench.AT + 8, x.get(14));
            DUE.is("ADDRESS: Rn", 0x4000000, x.get(2));
            x.put(3, 2, 0x1000);
            DUE.is("DATA", 4, x.does(Bench.QUIET, Code.one(bits, 0, 2, 4)));
            DUE.is("DATA: count", 1, x.board.count(5));
            DUE.is("DATA: R15", Bench.QUIET | 16, x.r15());
            DUE.is("DATA: R14", Bench.QUIET | Bench.AT + 8, x.get(14));
            DUE.is("DATA: Rn", 0x1000, x.get(2));
            DUE.is("Rd", 5, x.get(0));
        }
        Bench x = new Bench();
        x.put(3, 2, 0x3FFFFFF);
        DUE.is("the last ADDRESS", 4, x.does(Bench.QUIET, Code.one(Code.P | Code.L, 0, 2, 0)));
        DUE.is("is no TRAP", 0, x.board.count(6));
        x.put(3, 2, 3);
        x.does(Bench.QUIET, Code.one(Code.P | Code.L, 0, 2, 4));
        DUE.is("below 0", 1, x.board.count(6));
        x.put(3, 2, 0x3FFFFFC);
        x.does(Bench.QUIET, Code.one(Code.P | Code.U | Code.L, 0, 2, 4));
        DUE.is("the sum does not wrap", 2, x.board.count(6));
        x.put(3, 2, 0x3FFFFFC);
        x.does(Bench.QUIET, Code.one(Code.U | Code.L, 0, 2, 4));
        DUE.is("behind: the sum may be more", 2, x.board.count(6));
        DUE.is("and is written back", 0x4000000, x.get(2));
    }

    private static void asForUser() {
        Bench x = new Bench();
        x.map(1, 1, 1);
        x.poke(1024, 55);
        x.put(3, 2, 0x1000);
        x.does(Bench.QUIET, Code.one(Code.W | Code.L, 0, 2, 0));
        DUE.is("USER may read LEVEL 1", 55, x.get(0));
        x.does(Bench.QUIET, Code.one(Code.W, 0, 2, 0));
        DUE.is("USER may not write", 1, x.board.count(5));
        x.does(Bench.QUIET, Code.one(0, 0, 2, 0));
        DUE.is("SVC may", 1, x.board.count(5));
        x.does(Bench.QUIET, Code.one(Code.P | Code.W, 0, 2, 0));
        DUE.is("with P SVC may", 1, x.board.count(5));
        x.put(3, 2, 0x2000000);
        x.does(Bench.QUIET, Code.one(Code.W | Code.L, 0, 2, 0));
        DUE.is("MEMORY itself is not for USER", 2, x.board.count(5));
    }

    /** Stores R3, R5, R9 from a base: the lowest ADDRESS, and what the base is behind it. */
    private static void beginning(String name, int bits, int lowest, int behind) {
        Bench x = new Bench();
        x.put(3, 3, 33);
        x.put(3, 5, 55);
        x.put(3, 9, 99);
        x.put(3, 2, 0x302);
        DUE.is(name + " TICKS", 5, x.does(Bench.QUIET, Code.many(bits, 2, 3, 5, 9)));
        DUE.is(name + " R3", 33, x.board.peek(lowest / 4));
        DUE.is(name + " R5", 55, x.board.peek(lowest / 4 + 1));
        DUE.is(name + " R9", 99, x.board.peek(lowest / 4 + 2));
        DUE.is(name + " ahead of it", 0, x.board.peek(lowest / 4 - 1));
        DUE.is(name + " behind it", 0, x.board.peek(lowest / 4 + 3));
        DUE.is(name + " Rn", behind, x.get(2));
        x.poke(lowest / 4, 1);
        x.poke(lowest / 4 + 1, 2);
        x.poke(lowest / 4 + 2, 3);
        x.put(3, 2, 0x302);
        DUE.is(name + " L TICKS", 5, x.does(Bench.QUIET, Code.many(bits | Code.L, 2, 3, 5, 9)));
        DUE.is(name + " L", 123, 100 * x.get(3) + 10 * x.get(5) + x.get(9));
        DUE.is(name + " L Rn", behind, x.get(2));
    }

    private static void beginnings() {
        beginning("U", Code.U, 0x300, 0x302);
        beginning("U P", Code.U | Code.P, 0x304, 0x302);
        beginning("neither", 0, 0x2F8, 0x302);
        beginning("P", Code.P, 0x2F4, 0x302);
        beginning("U W", Code.U | Code.W, 0x300, 0x30E);
        beginning("U P W", Code.U | Code.P | Code.W, 0x304, 0x30E);
        beginning("W", Code.W, 0x2F8, 0x2F6);
        beginning("P W", Code.P | Code.W, 0x2F4, 0x2F6);
        Bench x = new Bench();
        x.put(3, 2, -1);
        DUE.is("none", 1, x.does(Bench.QUIET, Code.many(Code.U | Code.W | Code.L, 2)));
        DUE.is("nothing is done", -1, x.get(2));
        DUE.is("no TRAP", Bench.QUIET | Bench.AT + 4, x.r15());
        x.put(3, 0, 0x300);
        DUE.is("all of them", 18, x.does(Bench.QUIET, Code.many(Code.U, 0, 0, 1, 2, 3, 4, 5, 6, 7, 8, 9, 10, 11, 12, 13, 14, 15)));
    }

    private static void baseInTheList() {
        Bench x = new Bench();
        x.put(3, 2, 0x300);
        x.does(Bench.QUIET, Code.many(Code.U | Code.W, 2, 2, 3));
        DUE.is("the lowest: as it was", 0x300, x.board.peek(0x300 / 4));
        x.put(3, 2, 0x300);
        x.does(Bench.QUIET, Code.many(Code.U | Code.W, 2, 1, 2));
        DUE.is("not the lowest: as it is", 0x308, x.board.peek(0x304 / 4));
        x.put(3, 2, 0x300);
        x.does(Bench.QUIET, Code.many(Code.U, 2, 1, 2));
        DUE.is("without W", 0x300, x.board.peek(0x304 / 4));
        x.poke(0x304 / 4, 4321);
        x.put(3, 2, 0x300);
        x.does(Bench.QUIET, Code.many(Code.U | Code.W | Code.L, 2, 1, 2));
        DUE.is("what comes to Rn counts", 4321, x.get(2));
        x.put(3, 2, 0x304);
        x.does(Bench.QUIET, Code.many(Code.U | Code.L, 2, 0, 14));
        DUE.is("R0 is loaded, too", 4321, x.get(0));
        DUE.is("R14 is loaded, too", 0, x.get(14));
    }

    private static void r15OfMany() {
        Bench x = new Bench();
        x.put(3, 2, 0x300);
        DUE.is("R15 is stored", 4, x.does(Bench.QUIET | FLAGS, Code.many(Code.U, 2, 1, 15)));
        DUE.is("A + 12 with all SIGNS", Bench.QUIET | FLAGS | Bench.AT + 12, x.board.peek(0x304 / 4));
        x.poke(0x304 / 4, 0xF000100A);
        DUE.is("PC is put", 7, x.does(Bench.QUIET, Code.many(Code.U | Code.L, 2, 1, 15)));
        DUE.is("only PC", Bench.QUIET | 0x1008, x.r15());
        x.put(3, 13, 1313);
        x.put(2, 13, 1212);
        x.poke(0x300 / 4, 3131);
        DUE.is("PC is put with S", 7, x.does(Bench.QUIET, Code.many(Code.U | Code.L | Code.USERS, 2, 13, 15)));
        DUE.is("SIGNS are SET", 0xF000100A, x.r15());
        DUE.is("R13 is that of the MODE", 3131, x.board.register(3, 13));
        DUE.is("not that of the new one", 1212, x.board.register(2, 13));
        DUE.is("not that of USER", 0, x.board.register(0, 13));
        x.poke(0x304 / 4, 0xFC001003);
        x.does(Code.USER, Code.many(Code.U | Code.L | Code.USERS, 2, 1, 15));
        DUE.is("by USER only flags", 0xF0001000, x.r15());
        x.does(Bench.QUIET | FLAGS, Code.many(Code.U | Code.W, 15, 0, 15));
        DUE.is("R15 as Rn is A + 8", Bench.QUIET | FLAGS | Bench.AT + 12, x.board.peek((Bench.AT + 12) / 4));
        DUE.is("and is not written", Bench.QUIET | FLAGS | Bench.AT + 4, x.r15());
        x.does(Bench.QUIET | FLAGS, Code.many(Code.U | Code.W, 15, 15));
        DUE.is("R15 alone", Bench.QUIET | FLAGS | Bench.AT + 12, x.board.peek((Bench.AT + 8) / 4));
    }

    private static void registersOfUser() {
        Bench x = new Bench();
        x.put(0, 13, 113);
        x.put(0, 14, 114);
        x.put(3, 13, 0x300);
        x.put(3, 14, 314);
        int storeUsers = Code.many(Code.U | Code.W | Code.USERS, 13, 13, 14);
        x.does(Bench.QUIET, storeUsers);
        DUE.is("R13 of USER gives what it is", 113, x.board.peek(0x300 / 4));
        DUE.is("R14 of USER", 114, x.board.peek(0x304 / 4));
        DUE.is("Rn is that of the MODE", 0x308, x.board.register(3, 13));
        DUE.is("R13 of USER stays", 113, x.board.register(0, 13));
        x.poke(0x300 / 4, 1);
        x.poke(0x304 / 4, 2);
        x.put(3, 13, 0x300);
        x.does(Bench.QUIET, storeUsers | Code.L);
        DUE.is("R13 of USER is loaded", 1, x.board.register(0, 13));
        DUE.is("R14 of USER is loaded", 2, x.board.register(0, 14));
        DUE.is("Rn of the MODE is written back", 0x308, x.board.register(3, 13));
        DUE.is("R14 of the MODE stays", 314, x.board.register(3, 14));
        x.put(3, 2, 0x300);
        x.does(Bench.QUIET, Code.many(Code.U | Code.W | Code.USERS, 2, 2, 13));
        DUE.is("R2 is the same one: as it was", 0x300, x.board.peek(0x300 / 4));
        x.put(3, 2, 0x300);
        x.does(Bench.QUIET, Code.many(Code.U | Code.W | Code.USERS, 2, 1, 2));
        DUE.is("R2 is the same one: as it is", 0x308, x.board.peek(0x304 / 4));
        x.put(1, 8, 0x300);
        x.put(0, 8, 88);
        x.does(Code.FIQ | Code.I | Code.F, Code.many(Code.U | Code.W | Code.USERS, 8, 7, 8, 15));
        DUE.is("R8 of USER by FIQ", 88, x.board.peek(0x304 / 4));
        DUE.is("R8 of FIQ", 0x30C, x.board.register(1, 8));
        DUE.is("R15 by S", Code.FIQ | Code.I | Code.F | Bench.AT + 12, x.board.peek(0x308 / 4));
        x.put(0, 8, 0x300);
        x.does(Bench.QUIET, Code.many(Code.U | Code.W | Code.USERS, 8, 8, 9));
        DUE.is("R8 of SVC is that of USER", 0x300, x.board.peek(0x300 / 4));
    }

    private static void trapsOfMany() {
        for (int l : new int[] {0, Code.L}) {
            Bench x = new Bench();
            x.put(3, 2, 0xFF8);
            x.poke(1022, 71);
            x.put(3, 5, 50);
            DUE.is("DATA", 4, x.does(Bench.QUIET, Code.many(Code.U | Code.W | l, 2, 5, 6, 7)));
            DUE.is("DATA: R15", Bench.QUIET | 16, x.r15());
            DUE.is("DATA: R14", Bench.QUIET | Bench.AT + 8, x.get(14));
            DUE.is("Rn stays", 0xFF8, x.get(2));
            DUE.is("no word is moved", 71, x.board.peek(1022));
            DUE.is("no word is moved", 50, x.get(5));
            DUE.is("two are ALLOWED", 4, x.does(Bench.QUIET, Code.many(Code.U | Code.W | l, 2, 5, 6)));
            DUE.is("no TRAP", 1, x.board.count(5));
            x.put(3, 2, 0x4000000);
            DUE.is("ADDRESS", 4, x.does(Bench.QUIET, Code.many(Code.U | Code.W | l, 2, 5, 6, 7)));
            DUE.is("ADDRESS: R15", Bench.QUIET | 20, x.r15());
            DUE.is("ADDRESS: R14", Bench.QUIET | Bench.AT + 8, x.get(14));
            DUE.is("Rn stays", 0x4000000, x.get(2));
            x.put(3, 2, 8);
            x.does(Bench.QUIET, Code.many(Code.P | l, 2, 5, 6, 7));
            DUE.is("a beginning below 0", 2, x.board.count(6));
            x.put(3, 2, 0x4000000);
            x.does(Bench.QUIET, Code.many(Code.P | l, 2, 5, 6));
            DUE.is("a beginning below 2^26", 2, x.board.count(6));
            x.put(0, 2, 0x2000000);
            x.does(Code.USER | Code.I | Code.F, Code.many(Code.U | l, 2, 5));
            DUE.is("not for USER", 2, x.board.count(5));
        }
    }

    private static void wrappingOfMany() {
        Bench x = new Bench();
        x.put(3, 2, 0x3FFFFFE);
        x.put(3, 3, 3);
        x.put(3, 4, 4);
        x.put(3, 5, 5);
        x.does(Bench.QUIET, Code.many(Code.U | Code.W, 2, 3, 4, 5));
        DUE.is("behind the last ADDRESS 0 comes", 4, x.board.peek(0));
        DUE.is("and 4", 5, x.board.peek(1));
        DUE.is("Rn does not wrap", 0x400000A, x.get(2));
    }

    private static void pagesFoundAhead() {
        Bench x = new Bench();
        // 0x3FFFFFC takes the NUMBER from ENTRY 12, 0x3FFFFF8 from ENTRY 8; PAGE 8 is at 0 until then.
        x.map(8, 0, 0);
        x.map(0, 5, 0);
        x.put(3, 2, 0x3FFFFF8);
        x.put(3, 3, 3);
        x.put(3, 4, 4);
        x.put(3, 5, 5);
        x.doesAt(0x2000100, Bench.QUIET, Code.many(Code.U, 2, 3, 4, 5));
        DUE.is("ENTRY 8 has changed", PageBoard.NONE, x.board.entry(8, 0));
        DUE.is("the PAGE is the one found ahead", 5, x.board.peek(8 * 1024));
        DUE.is("no TRAP", 0, x.board.count(5));
    }
}
