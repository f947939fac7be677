/** WORK, its OPERAND, MULTIPLY, BRANCH and the CONDITIONS, one instruction at a time (promises 8, 11). */
public final class WorkTest {
    private static final Due DUE = new Due();
    private static final int MIN = Integer.MIN_VALUE;
    private static final int MAX = Integer.MAX_VALUE;

    private static final Bench X = new Bench();

    public static void main(String[] args) {
        conditions();
        results();
        flagsOfSums();
        flagsOfOthers();
        turnedBytes();
        shiftsByBits();
        shiftsByRegister();
        r15AsOperand();
        r15AsResult();
        signsFromResult();
        ticksOfWork();
        multiply();
        undefinedOnes();
        branches();
        DUE.end();
    }

    /** "0 Z, 1 not Z, 2 C, .. 14 always, 15 never": each by each N, Z, C, V; "(1 TICK)" */
    private static void conditions() {
        for (int flags = 0; flags < 16; flags++) {
            boolean n = (flags & 8) != 0;
            boolean z = (flags & 4) != 0;
            boolean c = (flags & 2) != 0;
            boolean v = (flags & 1) != 0;
            boolean[] so = {z, !z, c, !c, n, !n, v, !v, c && !z, !c || z, n == v, n != v, n == v && !z, n != v || z, true, false};
            for (int condition = 0; condition < 16; condition++) {
                X.put(3, 0, 0);
                long notSo = X.board.count(10);
                int ticks = X.does(Bench.QUIET | flags << 28,
                    Code.when(condition, Code.work(Code.ADD, 0, 0, 0, Code.turned(1, 0))));
                String name = "condition " + condition + " by " + flags;
                DUE.is(name, so[condition] ? 1 : 0, X.get(0));
                DUE.is(name + " counts", so[condition] ? 0 : 1, X.board.count(10) - notSo);
                DUE.is(name + " TICKS", 1, ticks);
                DUE.is(name + " R15", Bench.QUIET | flags << 28 | Bench.AT + 4, X.r15());
            }
        }
        DUE.is("a TRAP that is not so", 1, X.does(Bench.QUIET, Code.when(0, Code.SWI)));
        DUE.is("PC goes on", Bench.AT + 4, X.pc());
    }

    /** R2 becomes R0 kind R1, without S. */
    private static int result(int signs, int kind, int x, int y) {
        X.put(3, 0, x);
        X.put(3, 1, y);
        X.put(3, 2, 0x55555555);
        X.does(Bench.QUIET | signs, Code.work(kind, 0, 2, 0, 1));
        DUE.is("without S SIGNS stay", Bench.QUIET | signs, X.signs());
        return X.get(2);
    }

    private static void results() {
        int x = 0xF0F01234;
        int y = 0x0FF04321;
        int[] want = {x & y, x ^ y, x - y, y - x, x + y, x + y, x - y - 1, y - x - 1};
        int[] wantWithC = {x & y, x ^ y, x - y, y - x, x + y, x + y + 1, x - y, y - x};
        for (int kind = 0; kind < 8; kind++) {
            DUE.is("kind " + kind, want[kind], result(0, kind, x, y));
            DUE.is("kind " + kind + " with C", wantWithC[kind], result(Code.C, kind, x, y));
        }
        DUE.is("ORR", x | y, result(0, Code.ORR, x, y));
        DUE.is("MOV", y, result(0, Code.MOV, x, y));
        DUE.is("BIC", x & ~y, result(0, Code.BIC, x, y));
        DUE.is("MVN", ~y, result(0, Code.MVN, x, y));
    }

    /** The flags N, Z, C, V behind it, as four bits. */
    private static int flags(int signs, int kind, int x, int y) {
        X.put(3, 0, x);
        X.put(3, 1, y);
        X.put(3, 2, 0x55555555);
        X.does(Bench.QUIET | signs, Code.work(kind, Code.S, 2, 0, 1));
        DUE.is("other SIGNS stay", Bench.QUIET, X.signs() & 0xFFFFFFF);
        boolean nowhere = kind >= 8 && kind <= 11;
        DUE.is("put nowhere " + kind, nowhere ? 1 : 0, X.get(2) == 0x55555555 ? 1 : 0);
        return X.signs() >>> 28;
    }

    private static void flagsOfSums() {
        for (int kind : new int[] {Code.ADD, Code.CMN}) {
            DUE.is("0 + 0", 4, flags(Code.C | Code.V, kind, 0, 0));
            DUE.is("-1 + 1", 6, flags(0, kind, -1, 1));
            DUE.is("MAX + 1", 9, flags(0, kind, MAX, 1));
            DUE.is("MIN + MIN", 7, flags(0, kind, MIN, MIN));
            DUE.is("-1 + -1", 10, flags(0, kind, -1, -1));
            DUE.is("C is not added", 4, flags(Code.C, kind, 0, 0));
        }
        for (int kind : new int[] {Code.SUB, Code.CMP}) {
            DUE.is("0 - 0", 6, flags(Code.V, kind, 0, 0));
            DUE.is("0 - 1", 8, flags(Code.C, kind, 0, 1));
            DUE.is("MIN - 1", 3, flags(0, kind, MIN, 1));
            DUE.is("MAX - -1", 9, flags(0, kind, MAX, -1));
            DUE.is("1 - 0", 2, flags(0, kind, 1, 0));
            DUE.is("0 - MIN", 9, flags(0, kind, 0, MIN));
        }
        DUE.is("RSB 1, MIN", 3, flags(0, Code.RSB, 1, MIN));
        DUE.is("RSB 1, 0", 8, flags(0, Code.RSB, 1, 0));
        DUE.is("ADC -1 + 0 + 1", 6, flags(Code.C, Code.ADC, -1, 0));
        DUE.is("ADC -1 + 0 + 0", 8, flags(0, Code.ADC, -1, 0));
        DUE.is("ADC MAX + 0 + 1", 9, flags(Code.C, Code.ADC, MAX, 0));
        DUE.is("ADC -1 + -1 + 1", 10, flags(Code.C, Code.ADC, -1, -1));
        DUE.is("ADC MIN + -1 + 1: exact", 10, flags(Code.C, Code.ADC, MIN, -1));
        DUE.is("SBC 0 - 0 - 1", 8, flags(0, Code.SBC, 0, 0));
        DUE.is("SBC 0 - 0 - 0", 6, flags(Code.C, Code.SBC, 0, 0));
        DUE.is("SBC MIN - 0 - 1", 3, flags(0, Code.SBC, MIN, 0));
        DUE.is("SBC 0 - -1 - 1: borrowed", 4, flags(0, Code.SBC, 0, -1));
        DUE.is("SBC MAX - -1 - 1: exact", 0, flags(0, Code.SBC, MAX, -1));
        DUE.is("RSC 0, 0 - 1", 8, flags(0, Code.RSC, 0, 0));
        DUE.is("RSC 0, MIN - 1", 3, flags(0, Code.RSC, 0, MIN));
    }

    /** "C of others the OPERAND's carry, V stays." */
    private static void flagsOfOthers() {
        int[] kinds = {Code.AND, Code.EOR, Code.TST, Code.TEQ, Code.ORR, Code.MOV, Code.BIC, Code.MVN};
        for (int kind : kinds) {
            int got = flags(Code.V, kind, 0, 0);
            DUE.is("V stays by " + kind, kind == Code.MVN ? 9 : 5, got);
            got = flags(Code.C, kind, 0, 0);
            DUE.is("C of the OPERAND as it is by " + kind, kind == Code.MVN ? 10 : 6, got);
        }
        DUE.is("TST", 8, flags(0, Code.TST, MIN, -1));
        DUE.is("TEQ", 0, flags(0, Code.TEQ, MIN, -1));
        DUE.is("BIC", 4, flags(0, Code.BIC, MIN, -1));
        X.put(3, 0, 0);
        X.put(3, 1, 3);
        X.does(Bench.QUIET, Code.work(Code.MOV, Code.S, 2, 0, Code.shifted(1, Code.LSR, 1)));
        DUE.is("MOV has the OPERAND's carry", Code.C, X.signs() & 0xF0000000);
        X.does(Bench.QUIET, Code.work(Code.ADD, Code.S, 2, 0, Code.shifted(1, Code.LSR, 1)));
        DUE.is("a sum has its own", 0, X.signs() & 0xF0000000);
    }

    private static void turned(String name, int b, int half, int signs, int want, int carry) {
        X.does(Bench.QUIET | signs, Code.work(Code.MOV, Code.S, 2, 0, Code.turned(b, half)));
        DUE.is(name, want, X.get(2));
        DUE.is(name + ", carry", carry, X.signs() >>> 29 & 1);
    }

    private static void turnedBytes() {
        turned("a byte", 0xFF, 0, 0, 0xFF, 0);
        turned("a byte, C stays", 0xFF, 0, Code.C, 0xFF, 1);
        turned("turned by 2", 0x03, 1, 0, 0xC0000000, 1);
        turned("turned by 8", 0x7F, 4, Code.C, 0x7F000000, 0);
        turned("turned by 8", 0xFF, 4, 0, 0xFF000000, 1);
        turned("turned by 30", 0xFF, 15, Code.C, 0x3FC, 0);
    }

    private static void byBits(int kind, int k, int v, int signs, int want, int carry) {
        X.put(3, 1, v);
        X.does(Bench.QUIET | signs, Code.work(Code.MOV, Code.S, 2, 0, Code.shifted(1, kind, k)));
        String name = "kind " + kind + " by bits " + k;
        DUE.is(name, want, X.get(2));
        DUE.is(name + ", carry", carry, X.signs() >>> 29 & 1);
    }

    private static void shiftsByBits() {
        byBits(Code.LSL, 0, -1, 0, -1, 0);
        byBits(Code.LSL, 0, -1, Code.C, -1, 1);
        byBits(Code.LSL, 1, 0xC0000001, 0, 0x80000002, 1);
        byBits(Code.LSL, 31, 3, Code.C, MIN, 1);
        byBits(Code.LSL, 31, 1, Code.C, MIN, 0);
        byBits(Code.LSR, 1, 0x80000002, Code.C, 0x40000001, 0);
        byBits(Code.LSR, 31, MIN, Code.C, 1, 0);
        byBits(Code.LSR, 0, MIN, 0, 0, 1);
        byBits(Code.LSR, 0, MAX, Code.C, 0, 0);
        byBits(Code.ASR, 1, 0x80000003, 0, 0xC0000001, 1);
        byBits(Code.ASR, 31, MIN, Code.C, -1, 0);
        byBits(Code.ASR, 0, MIN, 0, -1, 1);
        byBits(Code.ASR, 0, MAX, Code.C, 0, 0);
        byBits(Code.ROR, 4, 0x12345678, 0, 0x81234567, 1);
        byBits(Code.ROR, 31, 0x40000000, 0, MIN, 1);
        byBits(Code.ROR, 1, 2, Code.C, 1, 0);
        byBits(Code.ROR, 4, MIN, Code.C, 0x08000000, 0);
        byBits(Code.ROR, 0, MIN, 0, 0x40000000, 0);
        byBits(Code.ROR, 0, 3, 0, 1, 1);
        byBits(Code.ROR, 0, 2, Code.C, 0x80000001, 0);
    }

    private static void byRegister(int kind, int k, int v, int signs, int want, int carry) {
        X.put(3, 1, v);
        X.put(3, 3, k);
        X.does(Bench.QUIET | signs, Code.work(Code.MOV, Code.S, 2, 0, Code.shiftedBy(1, kind, 3)));
        String name = "kind " + kind + " by a register " + k;
        DUE.is(name, want, X.get(2));
        DUE.is(name + ", carry", carry, X.signs() >>> 29 & 1);
    }

    private static void shiftsByRegister() {
        for (int kind = 0; kind < 4; kind++) {
            byRegister(kind, 0, 0x80000001, 0, 0x80000001, 0);
            byRegister(kind, 0, 0x80000001, Code.C, 0x80000001, 1);
            byRegister(kind, 0x300, 0x80000001, Code.C, 0x80000001, 1);
        }
        byRegister(Code.LSL, 1, MIN, 0, 0, 1);
        byRegister(Code.LSL, 31, 3, 0, MIN, 1);
        byRegister(Code.LSL, 32, 1, 0, 0, 1);
        byRegister(Code.LSL, 32, MIN, Code.C, 0, 0);
        byRegister(Code.LSL, 33, -1, Code.C, 0, 0);
        byRegister(Code.LSL, 64, -1, Code.C, 0, 0);
        byRegister(Code.LSL, 255, -1, Code.C, 0, 0);
        byRegister(Code.LSR, 31, -1, 0, 1, 1);
        byRegister(Code.LSR, 32, MIN, 0, 0, 1);
        byRegister(Code.LSR, 32, MAX, Code.C, 0, 0);
        byRegister(Code.LSR, 33, -1, Code.C, 0, 0);
        byRegister(Code.LSR, 64, -1, Code.C, 0, 0);
        byRegister(Code.ASR, 31, 0xC0000000, 0, -1, 1);
        byRegister(Code.ASR, 32, MIN, 0, -1, 1);
        byRegister(Code.ASR, 32, MAX, Code.C, 0, 0);
        byRegister(Code.ASR, 33, MIN, 0, -1, 1);
        byRegister(Code.ASR, 255, MAX, Code.C, 0, 0);
        byRegister(Code.ROR, 4, 0x12345678, 0, 0x81234567, 1);
        byRegister(Code.ROR, 32, MIN | 5, 0, MIN | 5, 1);
        byRegister(Code.ROR, 32, 5, Code.C, 5, 0);
        byRegister(Code.ROR, 36, 0x12345678, 0, 0x81234567, 1);
        byRegister(Code.ROR, 0x1FC, 0x12345678, Code.C, 0x23456781, 0);
    }

    /**
     * "As an operand R15 is A + 8 (only the bits of PC)"; "Rm, R15 being A + 8 with all SIGNS"; "R15 as x and as Rm is
     * A + 12 then"
     */
    private static void r15AsOperand() {
        int signs = Bench.QUIET | Code.N | Code.C;
        X.does(signs, Code.work(Code.MOV, 0, 2, 0, 15));
        DUE.is("Rm: all SIGNS", signs | Bench.AT + 8, X.get(2));
        X.does(signs, Code.work(Code.ADD, 0, 2, 15, Code.turned(0, 0)));
        DUE.is("x: only PC", Bench.AT + 8, X.get(2));
        X.put(3, 3, 0);
        X.does(signs, Code.work(Code.MOV, 0, 2, 0, Code.shiftedBy(15, Code.LSL, 3)));
        DUE.is("Rm by a register", signs | Bench.AT + 12, X.get(2));
        X.put(3, 1, 0);
        X.does(signs, Code.work(Code.ADD, 0, 2, 15, Code.shiftedBy(1, Code.LSL, 3)));
        DUE.is("x by a register", Bench.AT + 12, X.get(2));
        X.put(3, 1, 1);
        X.does(signs, Code.work(Code.MOV, 0, 2, 0, Code.shiftedBy(1, Code.LSL, 15)));
        DUE.is("Rs: A + 8", 1 << 8, X.get(2));
        X.doesAt(0x2FFFFFC, Bench.QUIET, Code.work(Code.ADD, 0, 2, 15, Code.turned(0, 0)));
        DUE.is("A + 8 at an end", 0x3000004, X.get(2));
    }

    private static void r15AsResult() {
        X.put(3, 1, 0xFFFFF007);
        DUE.is("PC is put", 4, X.does(Bench.QUIET, Code.work(Code.MOV, 0, 15, 0, 1)));
        DUE.is("only PC", Bench.QUIET | 0x3FFF004, X.r15());
        DUE.is("PC is put by SIGNS, too", 4, X.does(Bench.QUIET, Code.work(Code.MOV, Code.S, 15, 0, 1)));
        DUE.is("with S all", 0xFFFFF007, X.r15());
        DUE.is("PC is put, USER", 4, X.does(Code.USER, Code.work(Code.MOV, Code.S, 15, 0, 1)));
        DUE.is("for USER not I, F and the MODE", 0xF3FFF004, X.r15());
    }

    private static void signsFromResult() {
        X.put(3, 1, Code.N | Code.V | Code.F | Code.IRQ | 0x3FF0);
        X.put(3, 0, 0);
        int ticks = X.does(Bench.QUIET | Code.Z, Code.work(Code.TEQ, Code.S, 15, 0, 1));
        DUE.is("SIGNS are SET", Code.N | Code.V | Code.F | Code.IRQ | Bench.AT + 4, X.r15());
        DUE.is("the MODE has changed", 4, ticks);
        X.put(3, 1, Code.SVC);
        ticks = X.does(Bench.QUIET | Code.Z, Code.work(Code.ORR - 1, Code.S, 15, 0, 1));
        DUE.is("CMN sets SIGNS", Code.SVC | Bench.AT + 4, X.r15());
        DUE.is("the MODE is the same", 1, ticks);
        X.put(3, 1, -1);
        ticks = X.does(Code.USER | Code.I, Code.work(Code.TEQ, Code.S, 15, 0, 1));
        DUE.is("by USER only flags", 0xF0000000 | Code.I | Bench.AT + 4, X.r15());
        DUE.is("by USER no MODE", 1, ticks);
        // R13 of SVC stays where it is when the MODE changes.
        X.put(3, 13, 131);
        X.put(1, 13, 132);
        X.put(3, 1, Code.I | Code.F | Code.FIQ);
        X.does(Bench.QUIET, Code.work(Code.TEQ, Code.S, 15, 0, 1));
        DUE.is("R13 of FIQ", 132, X.get(13));
    }

    private static void ticksOfWork() {
        DUE.is("one", 1, X.does(Bench.QUIET, Code.work(Code.MOV, 0, 2, 0, 1)));
        DUE.is("by a register", 2, X.does(Bench.QUIET, Code.work(Code.MOV, 0, 2, 0, Code.shiftedBy(1, Code.LSL, 3))));
        DUE.is("by a register to PC", 5, X.does(Bench.QUIET, Code.work(Code.MOV, 0, 15, 0, Code.shiftedBy(1, Code.LSL, 3))));
        DUE.is("bits 4 and 7 of a number", 1, X.does(Bench.QUIET, Code.work(Code.MOV, 0, 2, 0, Code.turned(0x90, 0))));
        DUE.is("its value", 0x90, X.get(2));
    }

    private static void times(int factor, int ticks) {
        X.put(3, 1, 7);
        X.put(3, 3, factor);
        DUE.is("TICKS by " + factor, ticks, X.does(Bench.QUIET, Code.multiply(0, 2, 1, 3, 0)));
        DUE.is("7 * " + factor, 7 * factor, X.get(2));
        DUE.is("SIGNS stay", Bench.QUIET, X.signs());
    }

    private static void multiply() {
        times(0, 2);
        times(1, 2);
        times(3, 2);
        times(4, 3);
        times(15, 3);
        times(16, 4);
        times(0x10000, 10);
        times(MAX, 17);
        times(MIN, 17);
        times(-1, 17);
        X.put(3, 1, 6);
        X.put(3, 3, -7);
        X.put(3, 4, 50);
        X.does(Bench.QUIET | Code.C | Code.V | Code.Z, Code.multiply(Code.S | Code.W, 2, 1, 3, 4));
        DUE.is("with a sum", 8, X.get(2));
        DUE.is("N, Z of it", Code.C | Code.V, X.signs() & 0xF0000000);
        X.put(3, 4, 42);
        X.does(Bench.QUIET, Code.multiply(Code.S | Code.W, 2, 1, 3, 4));
        DUE.is("Z of it", Code.Z, X.signs() & 0xF0000000);
        X.does(Bench.QUIET, Code.multiply(Code.S, 15, 1, 3, 4));
        DUE.is("to R15: nowhere, but N", Bench.QUIET | Code.N | Bench.AT + 4, X.r15());
        X.put(3, 3, 1);
        X.does(Bench.QUIET | Code.N, Code.multiply(0, 2, 15, 3, 4));
        DUE.is("R15 as Rm", Bench.AT + 8, X.get(2));
        DUE.is("R15 as Rs", 6, X.does(Bench.QUIET | Code.N, Code.multiply(Code.W, 2, 3, 15, 15)));
        DUE.is("R15 as Rs and Rd", 2 * (Bench.AT + 8), X.get(2));
        X.put(3, 2, 5);
        X.does(Bench.QUIET, Code.multiply(0, 2, 2, 2, 2));
        DUE.is("all the same register", 25, X.get(2));
    }

    private static void undefinedOnes() {
        int[] words = {
            0xE0000090 | 1 << 22, 0xE0000090 | 1 << 23, 0xE0000090 | 1 << 24, 0xE00000B0, 0xE00000D0, 0xE00000F0,
            Code.work(Code.TST, 0, 2, 0, 1), Code.work(Code.TEQ, 0, 2, 0, 1), Code.work(Code.CMP, 0, 2, 0, 1),
            Code.work(Code.CMN, 0, 2, 0, Code.turned(1, 1)), 0xE6000010, 0xE79F0F90, 0xEC000000, 0xEDFFFFFF, 0xEE000000,
            0xEEFFFFFF,
        };
        for (int word : words) {
            long before = X.board.count(2);
            DUE.is("UNDEFINED " + Integer.toHexString(word), 4, X.does(Bench.QUIET, word));
            DUE.is("its count", 1, X.board.count(2) - before);
            DUE.is("its VECTOR", Bench.QUIET | 4, X.r15());
            DUE.is("its R14", Bench.QUIET | Bench.AT + 4, X.get(14));
        }
    }

    private static void branches() {
        DUE.is("BRANCH", 4, X.does(Bench.QUIET, Code.branch(3)));
        DUE.is("on", Bench.QUIET | Bench.AT + 20, X.r15());
        X.does(Bench.QUIET, Code.branch(-3));
        DUE.is("back", Bench.QUIET | Bench.AT - 4, X.r15());
        X.does(Bench.QUIET, Code.branch(0x800000));
        DUE.is("far back", Bench.QUIET | Bench.AT + 8 + 0x2000000, X.r15());
        X.does(Bench.QUIET, Code.branch(-200));
        DUE.is("it wraps", Bench.QUIET | 0x4000000 + Bench.AT + 8 - 800, X.r15());
        X.put(3, 14, 1);
        X.does(Bench.QUIET, Code.branch(3));
        DUE.is("R14 stays", 1, X.get(14));
        X.does(Bench.QUIET | Code.Z, Code.link(3));
        DUE.is("R14", Bench.QUIET | Code.Z | Bench.AT + 4, X.get(14));
        X.put(1, 14, 1);
        X.does(Code.FIQ | Code.F | Code.I, Code.link(3));
        DUE.is("R14 of FIQ", Code.FIQ | Code.F | Code.I | Bench.AT + 4, X.board.register(1, 14));
        DUE.is("R14 of SVC stays", Bench.QUIET | Code.Z | Bench.AT + 4, X.board.register(3, 14));
    }
}
