/**
 * The boundary cases that the terms REGISTERS and A STEP name (promises 8, 9, 11, 16), a method
 * for each sentence, which stands above it; no object here has more than 512 calls.
 */
public final class StepEdgesTest {
    private static final Due DUE = new Due();
    private static final int MIN = Integer.MIN_VALUE;
    private static final int MAX = Integer.MAX_VALUE;
    private static final int AT = Bench.AT;
    private static final int QUIET = Bench.QUIET;
    private static final int[] ALL = {0, 1, 2, 3, 4, 5, 6, 7, 8, 9, 10, 11, 12, 13, 14, 15};

    /** The TRAPS in the order of their counts: UNDEFINED, SWI, PREFETCH, DATA, ADDRESS, IRQ, FIQ. */
    private static final int PREFETCH = 2;
    private static final int DATA = 3;
    private static final int ADDRESS = 4;
    private static final int IRQ = 5;
    private static final int FIQ = 6;
    private static final int[] TRAP_MODES = {Code.SVC, Code.SVC, Code.SVC, Code.SVC, Code.SVC, Code.IRQ, Code.FIQ};
    private static final int[] TRAP_AHEAD = {4, 4, 4, 8, 8, 4, 4};

    public static void main(String[] args) {
        ownRegisters();
        setSigns();
        whatIsTaken();
        linesAreAskedAheadOfEachStep();
        fetchAtTheEndOfAPage();
        pcWraps();
        r14Wraps();
        trapsFromEachMode();
        trapsChangeNothingElse();
        notSo();
        multiplyTicks();
        multiplyToR15();
        undefinedOf000();
        testsWithoutS();
        testsToR15();
        resultToR15();
        ticksOfAChangedMode();
        carryOfAByte();
        shiftsAtTheirEnds();
        signsOfWork();
        oneAddress();
        oneBehind();
        oneNotAllowed();
        oneLoads();
        oneStores();
        oneWithR15();
        manyOfNone();
        manyInOrder();
        manyTicks();
        manyBeginnings();
        manyWrap();
        manyNotAllowed();
        manyWithRn();
        manyWithR15();
        manyOfUser();
        branches();
        lastInstructions();
        DUE.end();
    }

    // ---- registers

    /** "R13, R14 each MODE has of its own; FIQ has R8 .. R12 of its own, too; the others have those of USER." */
    private static void ownRegisters() {
        for (int mode = 0; mode < 4; mode++) {
            Bench x = new Bench();
            for (int r : new int[] {0, 7, 8, 12, 13, 14}) {
                x.does(mode | Code.I | Code.F, Code.work(Code.MOV, 0, r, 0, Code.turned(r + 1, 0)));
                for (int other = 0; other < 4; other++) {
                    boolean own = r >= 13 || r >= 8 && (mode == Code.FIQ || other == Code.FIQ);
                    DUE.is("R" + r + " of " + other + " by " + mode, own && mode != other ? 0 : r + 1,
                        x.board.register(other, r));
                }
            }
        }
    }

    /** "To SET SIGNS from a word: N, Z, C, V become its bits; in a PRIVILEGED MODE F, I and the MODE, too." */
    private static void setSigns() {
        int teq = Code.work(Code.TEQ, Code.S, 15, 0, 1);
        for (int mode = 0; mode < 4; mode++) {
            Bench x = new Bench();
            for (int others : new int[] {0, Code.F, Code.I, Code.F | Code.I}) {
                x.put(mode, 0, 0);
                x.put(mode, 1, -1);
                x.does(mode | others, teq);
                DUE.is("all by " + mode, mode == 0 ? 0xF0000000 | others : 0xFC000003, x.signs());
                x.put(mode, 1, 0x03FFFFFC);
                x.does(mode | others | 0xF0000000, teq);
                DUE.is("none by " + mode, mode == 0 ? others : 0, x.signs());
                DUE.is("PC goes on", AT + 4, x.pc());
            }
        }
    }

    // ---- a STEP

    /** "FIQ IS TAKEN, if the FIQ LINE is 1 and F is 0; else IRQ, if the IRQ LINE is 1 and I is 0: that is the whole STEP then." */
    private static void whatIsTaken() {
        for (int k = 0; k < 16; k++) {
            boolean fiqLine = (k & 1) != 0;
            boolean irqLine = (k & 2) != 0;
            boolean f = (k & 4) != 0;
            boolean i = (k & 8) != 0;
            Bench x = new Bench();
            x.writeDevice(0x8000E, fiqLine ? 0x80 : 0);
            x.writeDevice(0x80006, irqLine ? 0x80 : 0);
            int ticks = x.does(Code.SVC | (f ? Code.F : 0) | (i ? Code.I : 0), Code.work(Code.MOV, 0, 5, 0, Code.turned(1, 0)));
            boolean fiq = fiqLine && !f;
            boolean irq = !fiq && irqLine && !i;
            DUE.is("FIQ of " + k, fiq ? 1 : 0, x.board.count(8));
            DUE.is("IRQ of " + k, irq ? 1 : 0, x.board.count(7));
            DUE.is("the instruction of " + k, fiq || irq ? 0 : 1, x.board.register(3, 5));
            DUE.is("TICKS of " + k, fiq || irq ? 4 : 1, ticks);
        }
    }

    /** "First, ahead of an instruction": the LINES are asked ahead of each STEP, with F and I as they are then. */
    private static void linesAreAskedAheadOfEachStep() {
        Bench x = new Bench();
        x.writeDevice(0x80006, 0x80);
        x.put(3, 0, 0);
        x.put(3, 1, Code.SVC | Code.F);
        DUE.is("I becomes 0 in a STEP", 1, x.does(QUIET, Code.work(Code.TEQ, Code.S, 15, 0, 1)));
        DUE.is("IRQ is not taken in it", 0, x.board.count(7));
        DUE.is("but in the next one", 4, x.ticksOfStep());
        DUE.is("IRQ is taken", 1, x.board.count(7));
        DUE.is("ahead of the instruction at", AT + 8, x.board.register(2, 14) & 0x3FFFFFC);
        DUE.is("I is 1 then: not again", 24, x.pc());
        x.poke(6, Code.NEVER);
        DUE.is("the next is an instruction", 1, x.ticksOfStep());
        // TX comes to be 1 behind a STEP: the STEP behind that takes IRQ.
        Bench y = new Bench();
        y.writeDevice(0x8000A, 0x40);
        y.writeDevice(0x80001, 1);
        y.wait(251);
        y.put(0, 15, Code.SVC | 0x3000000);
        DUE.is("the LINE is still 0", 1, y.ticksOfStep());
        DUE.is("the LINE is 1 behind it", 1, y.board.look(12));
        DUE.is("IRQ", 4, y.ticksOfStep());
        // FIQ and IRQ go ahead of a fetch that is not ALLOWED.
        x.put(0, 15, Code.USER | 0x1000);
        x.board.step(1);
        DUE.is("IRQ ahead of PREFETCH", 2, x.board.count(7));
        DUE.is("no PREFETCH", 0, x.board.count(4));
    }

    /** "Else the word at PC is fetched; if that is not ALLOWED: PREFETCH IS TAKEN." */
    private static void fetchAtTheEndOfAPage() {
        Bench x = new Bench();
        x.doesAt(0xFFC, Code.USER | Code.I | Code.F, Code.NEVER);
        DUE.is("the last word of a PAGE is an instruction", 1, x.board.count(10));
        DUE.is("PREFETCH behind it", 4, x.ticksOfStep());
        DUE.is("its R14", Code.I | Code.F | 0x1004, x.board.register(3, 14));
        DUE.is("its VECTOR", QUIET | 12, x.r15());
        DUE.is("no other instruction was met", 1, x.board.count(10));
    }

    /** "PC goes on to A + 4 (ADDRESSES wrap at 2^26)" */
    private static void pcWraps() {
        Bench x = new Bench();
        x.put(0, 15, 0xFC000003 & ~Code.Z | 0x3FFFFFC);
        x.board.step(1);
        DUE.is("not so: PC is 0, SIGNS stay", 0xFC000003 & ~Code.Z, x.r15());
        x.put(0, 15, 0xFC000003 | 0x3FFFFFC);
        x.board.step(1);
        DUE.is("so: PC is 0, SIGNS stay", 0xFC000003, x.r15());
    }

    /** "ADDRESSES wrap at 2^26", in R14 of a TRAP, too; "A is PC for those that are no instruction" */
    private static void r14Wraps() {
        Bench x = new Bench();
        x.put(0, 15, Code.USER | Code.V | 0x3FFFFFC);
        x.board.step(1);
        DUE.is("PREFETCH", Code.USER | Code.V, x.board.register(3, 14));
        x.writeDevice(0x80006, 0x80);
        x.put(0, 15, Code.USER | Code.V | 0x3FFFFFC);
        x.board.step(1);
        DUE.is("IRQ", Code.USER | Code.V, x.board.register(2, 14));
        x.writeDevice(0x8000E, 0x80);
        x.put(0, 15, Code.USER | Code.V | 0x3FFFFFC);
        x.board.step(1);
        DUE.is("FIQ", Code.USER | Code.V, x.board.register(1, 14));
    }

    /** An instruction that takes UNDEFINED, SWI, DATA or ADDRESS, by Rn 5 and 6; the others take none. */
    private static int trapInstruction(int trap) {
        int back = Code.L | Code.P | Code.U | Code.W;
        switch (trap) {
            case 0: return Code.work(Code.CMP, 0, 2, 1, Code.turned(1, 0));
            case 1: return Code.SWI | 0xFFFFFF;
            case DATA: return Code.one(back, 2, 5, 4);
            case ADDRESS: return Code.one(back, 2, 6, 4);
            default: return Code.work(Code.MOV, Code.S, 2, 0, Code.turned(0, 0));
        }
    }

    private static Bench readyForTrap(int trap) {
        Bench x = new Bench();
        x.writeDevice(0x80006, trap == IRQ ? 0x80 : 0);
        x.writeDevice(0x8000E, trap == FIQ ? 0x80 : 0);
        x.put(0, 5, 0x1000 - 4);
        x.put(0, 6, 0x4000000 - 4);
        for (int mode = 0; mode < 4; mode++) {
            x.put(mode, 14, 140 + mode);
        }
        return x;
    }

    /**
     * "R14 of its MODE becomes R15 as it is, but with the PC that is told; then the MODE is that one, I is 1
     * (by FIQ F, too), PC the VECTOR"; "a TRAP has 4"
     */
    private static void trapsFromEachMode() {
        for (int trap = 0; trap < 7; trap++) {
            for (int k = 0; k < 16; k++) {
                int ahead = k & 3 | ((k & 4) != 0 ? Code.I : 0) | ((k & 8) != 0 ? Code.F : 0) | (k % 3 == 0 ? 0xF0000000 : 0);
                if (trap == IRQ && (k & 4) != 0 || trap == FIQ && (k & 8) != 0) {
                    continue;
                }
                Bench x = readyForTrap(trap);
                int at = trap == PREFETCH ? 0x5000 : AT;
                String name = "TRAP " + trap + " from " + k;
                DUE.is(name + " TICKS", 4, x.doesAt(at, ahead, trapInstruction(trap)));
                int mode = TRAP_MODES[trap];
                int signs = ahead & ~3 | mode | Code.I | (trap == FIQ ? Code.F : 0);
                DUE.is(name + " R15", signs | 4 + 4 * trap, x.r15());
                DUE.is(name + " count", 1, x.board.count(2 + trap));
                for (int other = 0; other < 4; other++) {
                    DUE.is(name + " R14 of " + other, other == mode ? ahead | at + TRAP_AHEAD[trap] : 140 + other,
                        x.board.register(other, 14));
                }
            }
        }
    }

    /** "An instruction that takes a TRAP changes nothing but that." */
    private static void trapsChangeNothingElse() {
        int[] words = {
            trapInstruction(0), trapInstruction(1), trapInstruction(DATA), trapInstruction(ADDRESS),
            Code.one(Code.P | Code.U | Code.W, 2, 5, 4), Code.one(Code.P | Code.U | Code.W, 2, 6, 4),
            Code.one(Code.BY_REGISTER | Code.L | Code.W, 2, 1, 1 << 4 | 3),
            Code.many(Code.U | Code.W, 5, 1, 2, 3), Code.many(Code.L | Code.U | Code.W, 5, 1, 2, 3, 5),
            Code.many(Code.P | Code.U | Code.W, 6, 1, 2, 3), Code.many(Code.L | Code.P | Code.U | Code.W, 6, 1, 2, 6),
            Code.many(Code.L | Code.U | Code.W | Code.USERS, 5, 1, 15),
        };
        for (int word : words) {
            Bench x = new Bench();
            for (int r = 0; r < 14; r++) {
                x.put(3, r, 0x200 + r);
            }
            x.put(3, 5, 0x1000 - 4);
            x.put(3, 6, 0x4000000 - 4);
            x.poke(1023, 0x1234);
            String name = "TRAP of " + Integer.toHexString(word);
            x.does(QUIET | Code.V, word);
            DUE.is(name + " is taken", 1, x.board.count(2) + x.board.count(3) + x.board.count(5) + x.board.count(6));
            for (int r = 0; r < 14; r++) {
                DUE.is(name + " R" + r, r == 5 ? 0xFFC : r == 6 ? 0x3FFFFFC : 0x200 + r, x.get(r));
            }
            DUE.is(name + " SIGNS", QUIET | Code.V, x.signs());
            DUE.is(name + " MEMORY", 0x1234, x.board.peek(1023));
        }
    }

    /** "If it is not so nothing more is done (1 TICK)." */
    private static void notSo() {
        int[] words = {
            Code.SWI, Code.UNDEFINED, Code.STAY, Code.link(5), Code.multiply(Code.S, 2, 1, 1, 0),
            Code.work(Code.MOV, Code.S, 15, 0, Code.shiftedBy(1, 0, 1)), Code.one(Code.U, 1, 1, 4),
            Code.one(Code.U | Code.L, 15, 1, 4), Code.many(Code.U | Code.W | Code.L | Code.USERS, 1, ALL),
            Code.work(Code.TST, 0, 0, 0, 0), Code.many(Code.U | Code.W, 2, 1, 2),
        };
        for (int word : words) {
            for (int condition : new int[] {15, 0}) {
                Bench x = new Bench();
                x.put(3, 1, -1);
                x.put(3, 2, 0x1000);
                String name = Integer.toHexString(Code.when(condition, word));
                DUE.is(name + " TICKS", 1, x.does(QUIET, Code.when(condition, word)));
                DUE.is(name + " R15", QUIET | AT + 4, x.r15());
                DUE.is(name + " R1, R2, R14", 0x1000 - 1, x.get(1) + x.get(2) + x.get(14));
                DUE.is(name + " counts", 1, x.board.count(10));
                for (int trap = 2; trap <= 8; trap++) {
                    DUE.is(name + " no TRAP", 0, x.board.count(trap));
                }
            }
        }
    }

    // ---- MULTIPLY and WORK

    /** "1 TICK and one for each two bits of Rs up to the highest one that is 1, rounded up, at least one." */
    private static void multiplyTicks() {
        Bench x = new Bench();
        x.put(3, 1, 3);
        x.put(3, 2, 0);
        DUE.is("Rs is 0: at least one", 2, x.does(QUIET, Code.multiply(0, 4, 1, 2, 0)));
        for (int k = 0; k < 32; k++) {
            x.put(3, 2, 1 << k);
            DUE.is("Rs is 1 << " + k, 1 + (k + 2) / 2, x.does(QUIET, Code.multiply(0, 4, 1, 2, 0)));
            DUE.is("3 << " + k, 3 << k, x.get(4));
        }
        x.put(3, 2, -1);
        DUE.is("Rs is all ones", 17, x.does(QUIET, Code.multiply(Code.W | Code.S, 4, 1, 2, 0)));
        // Rm does not count.
        x.put(3, 1, -1);
        x.put(3, 2, 1);
        DUE.is("Rm is all ones", 2, x.does(QUIET, Code.multiply(0, 4, 1, 2, 0)));
    }

    /** "if n is 15 it goes nowhere." */
    private static void multiplyToR15() {
        Bench x = new Bench();
        x.put(3, 1, 0x40000000);
        x.put(3, 2, 2);
        DUE.is("TICKS", 2, x.does(QUIET, Code.multiply(0, 15, 1, 2, 0)));
        DUE.is("PC goes on", QUIET | AT + 4, x.r15());
        x.does(QUIET | Code.Z | Code.C | Code.V, Code.multiply(Code.S, 15, 1, 2, 0));
        DUE.is("N and Z, and nothing else", QUIET | Code.N | Code.C | Code.V | AT + 4, x.r15());
        x.put(3, 1, MIN);
        x.does(QUIET | Code.N, Code.multiply(Code.S, 4, 1, 2, 0));
        DUE.is("it wraps to 0: Z", QUIET | Code.Z | AT + 4, x.r15());
        DUE.is("the result", 0, x.get(4));
    }

    /** "000, and bits 22 .. 24 0, bits 4 .. 7 1001: MULTIPLY"; "000, with bits 4 and 7 both 1 otherwise: UNDEFINED." */
    private static void undefinedOf000() {
        for (int high = 0; high < 8; high++) {
            Bench x = new Bench();
            long undefined = 0;
            for (int low = 0; low < 16; low++) {
                x.put(3, 1, 3);
                x.put(3, 2, 5);
                x.put(3, 3, 0);
                // With S, so that no kind of WORK is UNDEFINED; R3 is Rn and Rd at once.
                x.does(QUIET, 0xE0100000 | high << 22 | 3 << 16 | 3 << 12 | 2 << 8 | low << 4 | 1);
                boolean multiply = high == 0 && low == 9;
                undefined += (low & 9) == 9 && !multiply ? 1 : 0;
                DUE.is("UNDEFINED up to " + high + " " + low, undefined, x.board.count(2));
                if (multiply) {
                    DUE.is("3 * 5", 15, x.get(3));
                }
            }
            x.does(QUIET, 0xE2100000 | high << 22 | 0xF9F);
            DUE.is("bits 4 and 7 of 001", undefined, x.board.count(2));
        }
    }

    /** "8 to 11 without S: UNDEFINED." */
    private static void testsWithoutS() {
        for (int kind = 0; kind < 16; kind++) {
            Bench x = new Bench();
            int due = kind >= 8 && kind <= 11 ? 1 : 0;
            x.does(QUIET, Code.work(kind, 0, 2, 1, 1));
            DUE.is("000: kind " + kind, due, x.board.count(2));
            x.does(QUIET, Code.work(kind, 0, 15, 1, Code.turned(1, 0)));
            DUE.is("001: kind " + kind, 2 * due, x.board.count(2));
            x.does(QUIET, Code.work(kind, 0, 2, 1, Code.shiftedBy(1, 0, 1)));
            DUE.is("by a register: kind " + kind, 3 * due, x.board.count(2));
            x.does(QUIET, Code.work(kind, Code.S, 2, 1, 1));
            DUE.is("with S: kind " + kind, 3 * due, x.board.count(2));
        }
    }

    /** "d is 15: SIGNS are SET from the result (8 to 11, too; PC, by those that put it to R15, as above)." */
    private static void testsToR15() {
        // TST, TEQ, CMP and CMN of these all have the same result.
        int result = 0x980003F2;
        int[][] operands = {{-1, result}, {0, result}, {0, -result}, {0, result}};
        for (int k = 0; k < 4; k++) {
            Bench x = new Bench();
            x.put(3, 0, operands[k][0]);
            x.put(3, 1, operands[k][1]);
            x.does(QUIET | Code.Z | Code.C, Code.work(Code.TST + k, Code.S, 15, 0, 1));
            DUE.is("SIGNS by " + (8 + k), Code.N | Code.V | Code.I | Code.IRQ, x.signs());
            DUE.is("PC is not put by " + (8 + k), AT + 4, x.pc());
        }
    }

    /** "15: only PC becomes its bits 2 .. 25." */
    private static void resultToR15() {
        Bench x = new Bench();
        x.put(3, 1, -1);
        DUE.is("without S: TICKS", 4, x.does(QUIET, Code.work(Code.MOV, 0, 15, 0, 1)));
        DUE.is("without S: only PC", QUIET | 0x3FFFFFC, x.r15());
        DUE.is("with S: TICKS", 4, x.does(QUIET, Code.work(Code.MOV, Code.S, 15, 0, 1)));
        DUE.is("with S: all of it", -1, x.r15());
        x.put(3, 1, 0);
        x.does(QUIET | 0xF0000000, Code.work(Code.MOV, 0, 15, 0, 1));
        DUE.is("PC 0, SIGNS stay", QUIET | 0xF0000000, x.r15());
        x.does(QUIET | 0xF0000000, Code.work(Code.MOV, Code.S, 15, 0, 1));
        DUE.is("PC 0 and no SIGNS: USER", 0, x.r15());
        x.put(0, 1, -1);
        x.does(Code.USER, Code.work(Code.MOV, Code.S, 15, 0, 1));
        DUE.is("by USER PC and flags", 0xF3FFFFFC, x.r15());
    }

    /** "(1 TICK; 3 more if PC was put or the MODE has changed.)" and "(1 TICK more" by Rs */
    private static void ticksOfAChangedMode() {
        for (int to = 0; to < 4; to++) {
            Bench x = new Bench();
            x.put(3, 0, 0);
            x.put(3, 1, to | Code.I | Code.F);
            int more = to == Code.SVC ? 0 : 3;
            DUE.is("TEQ to MODE " + to, 1 + more, x.does(QUIET, Code.work(Code.TEQ, Code.S, 15, 0, 1)));
            DUE.is("TEQ by Rs to MODE " + to, 2 + more, x.does(QUIET, Code.work(Code.TEQ, Code.S, 15, 0, Code.shiftedBy(1, 0, 0))));
            DUE.is("both: 3 once to MODE " + to, 4, x.does(QUIET, Code.work(Code.MOV, Code.S, 15, 0, 1)));
            DUE.is("both by Rs to MODE " + to, 5, x.does(QUIET, Code.work(Code.MOV, Code.S, 15, 0, Code.shiftedBy(1, 0, 0))));
        }
    }

    private static void moved(Bench x, String name, int operand, int signs, int want, int carry) {
        x.does(QUIET | signs, Code.work(Code.MOV, Code.S, 4, 0, operand));
        DUE.is(name, want, x.get(4));
        DUE.is(name + ": carry", carry, x.signs() >>> 29 & 1);
    }

    /** "bits 0 .. 7, turned to the right by twice bits 8 .. 11; carry: C if these are 0, else bit 31 of it." */
    private static void carryOfAByte() {
        Bench x = new Bench();
        for (int c = 0; c < 2; c++) {
            moved(x, "by 0", Code.turned(0x80, 0), c * Code.C, 0x80, c);
            moved(x, "by 2, bit 31 is 0", Code.turned(1, 1), c * Code.C, 0x40000000, 0);
            moved(x, "by 2, bit 31 is 1", Code.turned(2, 1), c * Code.C, MIN, 1);
            moved(x, "by 8", Code.turned(0x80, 4), c * Code.C, MIN, 1);
            moved(x, "by 30", Code.turned(0xFF, 15), c * Code.C, 0xFF << 2, 0);
            moved(x, "a byte 0 turned", Code.turned(0, 15), c * Code.C, 0, 0);
        }
    }

    /**
     * "By bits 7 .. 11, if they are 0: ..", "By Rs 0 is as it is, carry C, for all kinds.", "by 32 it is 0 with bit 0,
     * beyond 0 with 0", "by 32 0 with bit 31, beyond 0 with 0", "from 32 on bit 31 everywhere", "turned by k modulo 32"
     */
    private static void shiftsAtTheirEnds() {
        int v = 0x80000001;
        for (int c = 0; c < 2; c++) {
            Bench x = new Bench();
            x.put(3, 1, v);
            int signs = c * Code.C;
            moved(x, "LSL by bits 0", Code.shifted(1, Code.LSL, 0), signs, v, c);
            moved(x, "LSR by bits 0", Code.shifted(1, Code.LSR, 0), signs, 0, 1);
            moved(x, "ASR by bits 0", Code.shifted(1, Code.ASR, 0), signs, -1, 1);
            moved(x, "RRX", Code.shifted(1, Code.ROR, 0), signs, 0x40000000 | c << 31, 1);
            x.put(3, 1, 4);
            moved(x, "ROR with bit 30", Code.shifted(1, Code.ROR, 4), signs, 0x40000000, 0);
            moved(x, "ROR with bit 31", Code.shifted(1, Code.ROR, 3), signs, MIN, 1);
            moved(x, "ROR with bit 0", Code.shifted(1, Code.ROR, 2), signs, 1, 0);
            int[] numbers = {0, 1, 31, 32, 33, 64, 255, 256, -1, 0xFFFFFF00};
            int[][] results = {
                {v, 2, MIN, 0, 0, 0, 0, v, 0, v},
                {v, 0x40000000, 1, 0, 0, 0, 0, v, 0, v},
                {v, 0xC0000000, -1, -1, -1, -1, -1, v, -1, v},
                {v, 0xC0000000, 3, v, 0xC0000000, v, 3, v, 3, v},
            };
            int[][] carries = {
                {c, 1, 0, 1, 0, 0, 0, c, 0, c},
                {c, 1, 0, 1, 0, 0, 0, c, 0, c},
                {c, 1, 0, 1, 1, 1, 1, c, 1, c},
                {c, 1, 0, 1, 1, 1, 0, c, 0, c},
            };
            for (int kind = 0; kind < 4; kind++) {
                Bench y = new Bench();
                y.put(3, 1, v);
                for (int k = 0; k < numbers.length; k++) {
                    y.put(3, 2, numbers[k]);
                    moved(y, "kind " + kind + " by Rs " + numbers[k], Code.shiftedBy(1, kind, 2), signs, results[kind][k], carries[kind][k]);
                }
            }
        }
    }

    /** "C of sums the carry out of bit 31, of differences 1 if no one was borrowed, V whether, with sign, the result is not the exact one" */
    private static void signsOfWork() {
        int[][] due = {
            // kind, C ahead, x, y, result, N Z C V
            {Code.ADD, 0, -1, 1, 0, 6}, {Code.ADD, 0, MAX, 1, MIN, 9}, {Code.ADD, 0, MIN, -1, MAX, 3}, {Code.ADD, 1, -2, 1, -1, 8},
            {Code.ADD, 0, 0xC0000000, 0x40000000, 0, 6}, {Code.ADD, 0, 0x40000000, 0x40000000, MIN, 9}, {Code.SUB, 0, MIN, 0x40000000, 0x40000000, 3},
            {Code.SUB, 0, 0x40000000, 0x40000000, 0, 6}, {Code.ADD, 0, 0xBFFFFFFF, 0xC0000000, MAX, 3}, {Code.ADD, 0, MIN, MIN, 0, 7},
            {Code.ADC, 1, MAX, 0, MIN, 9}, {Code.ADC, 0, MAX, 0, MAX, 0}, {Code.ADC, 1, -1, -1, -1, 10}, {Code.ADC, 1, MIN, -1, MIN, 10},
            {Code.ADC, 0, MIN, -1, MAX, 3}, {Code.SUB, 0, 0, 0, 0, 6}, {Code.SUB, 0, 0, 1, -1, 8}, {Code.SUB, 0, MIN, 1, MAX, 3},
            {Code.SUB, 0, 0, MIN, MIN, 9}, {Code.SUB, 0, MIN, MIN, 0, 6}, {Code.SBC, 0, 0, -1, 0, 4}, {Code.SBC, 1, 0, -1, 1, 0},
            {Code.SBC, 0, MIN, 0, MAX, 3}, {Code.SBC, 0, 0, MIN, MAX, 0}, {Code.SBC, 1, 0, MIN, MIN, 9}, {Code.RSB, 0, 1, MIN, MAX, 3},
            {Code.RSB, 0, MIN, 0, MIN, 9}, {Code.RSC, 0, MIN, 0, MAX, 0}, {Code.RSC, 0, -1, 0, 0, 4}, {Code.RSC, 1, 0, 0, 0, 6},
        };
        for (int[] d : due) {
            Bench x = new Bench();
            x.put(3, 1, d[2]);
            x.put(3, 2, d[3]);
            // V is the other way round ahead of it.
            int signs = d[1] * Code.C | ((d[5] & 1) == 0 ? Code.V : 0);
            x.does(QUIET | signs, Code.work(d[0], Code.S, 4, 1, 2));
            String name = "kind " + d[0] + " of " + d[2] + " " + d[3] + " C " + d[1];
            DUE.is(name, d[4], x.get(4));
            DUE.is(name + ": SIGNS", d[5] << 28 | QUIET, x.signs());
        }
    }

    // ---- TRANSFER of one

    private static long trapsByOne(int bits, int base, int offset, int trap) {
        Bench x = new Bench();
        x.put(3, 5, base);
        x.does(QUIET, Code.one(bits, 2, 5, offset));
        DUE.is("no other TRAP", x.board.count(2 + trap), x.board.count(5) + x.board.count(6));
        return x.board.count(2 + trap);
    }

    /** "If it is 2^26 or more (without sign): ADDRESS IS TAKEN." */
    private static void oneAddress() {
        for (int l : new int[] {0, Code.L, Code.B, Code.L | Code.B}) {
            DUE.is("the last word", 0, trapsByOne(l | Code.P | Code.U, 0x3FFFFFC, 0, ADDRESS));
            DUE.is("the last byte", 0, trapsByOne(l | Code.P | Code.U, 0x3FFFFF0, 15, ADDRESS));
            DUE.is("2^26", 1, trapsByOne(l | Code.P | Code.U, 0x3FFFFFC, 4, ADDRESS));
            DUE.is("2^26 less 1", 0, trapsByOne(l | Code.P, 0x4000000, 1, ADDRESS));
            DUE.is("0", 0, trapsByOne(l | Code.P, 0xFFF, 0xFFF, ADDRESS));
            DUE.is("-1 is without sign", 1, trapsByOne(l | Code.P, 0xFFE, 0xFFF, ADDRESS));
            DUE.is("2^31", 1, trapsByOne(l | Code.P | Code.U, MIN, 0, ADDRESS));
            DUE.is("a sum that wraps at 2^32", 0, trapsByOne(l | Code.P | Code.U, -1, 1, ADDRESS));
        }
    }

    /** "The ADDRESS is that sum with P, else Rn."; "Without P, or with W, Rn becomes the sum (not R15)" */
    private static void oneBehind() {
        Bench x = new Bench();
        x.poke(0, 77);
        x.put(3, 5, 0);
        x.does(QUIET, Code.one(Code.L, 2, 5, 1));
        DUE.is("without P the sum is no ADDRESS", 77, x.get(2));
        DUE.is("the sum below 0 is written back", -1, x.get(5));
        x.put(3, 5, 0x3FFFFFC);
        x.does(QUIET, Code.one(Code.L | Code.U, 2, 5, 4));
        DUE.is("the sum 2^26 is written back", 0x4000000, x.get(5));
        DUE.is("no TRAP", 0, x.board.count(6));
        x.does(QUIET, Code.one(Code.L | Code.U, 2, 5, 4));
        DUE.is("Rn is 2^26: a TRAP", 1, x.board.count(6));
        DUE.is("without writing back", 0x4000000, x.get(5));
        int[] bits = {Code.P, Code.P | Code.W, 0, Code.W};
        int[] behind = {0x300, 0x304, 0x304, 0x304};
        for (int k = 0; k < 4; k++) {
            x.put(3, 5, 0x300);
            x.does(QUIET, Code.one(Code.U | bits[k], 2, 5, 4));
            DUE.is("Rn behind it by " + k, behind[k], x.get(5));
            x.does(QUIET, Code.one(Code.U | bits[k], 2, 15, 0x300));
            DUE.is("not R15 by " + k, QUIET | AT + 4, x.r15());
        }
    }

    /** "If it is not ALLOWED (without P and with W: as for USER): DATA IS TAKEN." */
    private static void oneNotAllowed() {
        DUE.is("the last byte of a PAGE", 0, trapsByOne(Code.P | Code.L | Code.B, 4095, 0, DATA));
        DUE.is("behind it", 1, trapsByOne(Code.P | Code.L | Code.B, 4096, 0, DATA));
        DUE.is("the last byte that no PAGE can have", 1, trapsByOne(Code.P | Code.B, 0x1FFFFFF, 0, DATA));
        DUE.is("MEMORY itself", 0, trapsByOne(Code.P | Code.B, 0x2000000, 0, DATA));
        for (int l : new int[] {0, Code.L}) {
            DUE.is("as for USER", 1, trapsByOne(l | Code.W, 0x2000000, 0, DATA));
            DUE.is("with P and W not", 0, trapsByOne(l | Code.P | Code.W, 0x2000000, 0, DATA));
            DUE.is("without either not", 0, trapsByOne(l, 0x2000000, 0, DATA));
            DUE.is("USER may there", 0, trapsByOne(l | Code.W, 0x200, 0, DATA));
            DUE.is("ADDRESS goes first", 1, trapsByOne(l | Code.W, 0x4000000, 0, ADDRESS));
        }
        // It is LEVEL and OS that count then, not the MODE.
        Bench x = new Bench();
        x.map(2, 2, 1);
        x.put(3, 5, 0x2000);
        x.does(QUIET, Code.one(Code.W, 2, 5, 0));
        DUE.is("a write at LEVEL 1", 1, x.board.count(5));
        x.os(1);
        x.does(QUIET, Code.one(Code.W, 2, 5, 0));
        DUE.is("with OS", 1, x.board.count(5));
    }

    /** "Rd becomes the word there, turned to the right by 8 times the lowest two bits of the ADDRESS (B: the byte of that number); 15: PC alone" */
    private static void oneLoads() {
        int[] words = {0x84838281, 0x81848382, 0x82818483, 0x83828184};
        Bench x = new Bench();
        x.poke(128, 0x84838281);
        for (int k = 0; k < 4; k++) {
            x.put(3, 5, 0x200 + k);
            DUE.is("TICKS", 4, x.does(QUIET, Code.one(Code.P | Code.L, 2, 5, 0)));
            DUE.is("word at " + k, words[k], x.get(2));
            x.does(QUIET, Code.one(Code.P | Code.L | Code.B, 2, 5, 0));
            DUE.is("byte at " + k + ", without sign", 0x81 + k, x.get(2));
            DUE.is("TICKS to PC", 7, x.does(QUIET, Code.one(Code.P | Code.L, 15, 5, 0)));
            DUE.is("PC alone at " + k, QUIET | words[k] & 0x3FFFFFC, x.r15());
            DUE.is("TICKS of a byte to PC", 7, x.does(QUIET, Code.one(Code.P | Code.L | Code.B, 15, 5, 0)));
            DUE.is("PC of a byte at " + k, QUIET | 0x81 + k & 0xFC, x.r15());
        }
        x.poke(128, -1);
        x.does(QUIET, Code.one(Code.P | Code.L, 15, 5, 0));
        DUE.is("all bits of PC", QUIET | 0x3FFFFFC, x.r15());
    }

    /** "B: its lowest byte becomes that byte"; "ahead of what L brings, behind what is taken from Rd." */
    private static void oneStores() {
        Bench x = new Bench();
        for (int k = 0; k < 4; k++) {
            x.poke(128, 0);
            x.put(3, 2, 0xFFFFFF80);
            x.put(3, 5, 0x200 + k);
            x.does(QUIET, Code.one(Code.P | Code.B, 2, 5, 0));
            DUE.is("byte " + k, 0x80 << 8 * k, x.board.peek(128));
            x.does(QUIET, Code.one(Code.P, 2, 5, 0));
            DUE.is("word at " + k, 0xFFFFFF80, x.board.peek(128));
        }
        x.put(3, 5, 0x200);
        x.does(QUIET, Code.one(Code.U, 5, 5, 8));
        DUE.is("Rd is Rn: taken first", 0x200, x.board.peek(128));
        DUE.is("then written back", 0x208, x.get(5));
        x.put(3, 5, 0x200);
        x.does(QUIET, Code.one(Code.U | Code.L, 5, 5, 8));
        DUE.is("what L brings counts", 0x200, x.get(5));
    }

    /** "Rd (15: A + 12 with all SIGNS)"; "As an operand R15 is A + 8 (only the bits of PC), where nothing else is said." */
    private static void oneWithR15() {
        Bench x = new Bench();
        int signs = QUIET | 0xF0000000;
        x.put(3, 5, 0x200);
        x.does(signs, Code.one(Code.P, 15, 5, 0));
        DUE.is("A + 12", signs | AT + 12, x.board.peek(128));
        x.doesAt(0x2FFFFFC, signs, Code.one(Code.P, 15, 5, 0));
        DUE.is("A + 12 behind a span", signs | 0x3000008, x.board.peek(128));
        x.does(signs, Code.one(Code.P | Code.B, 15, 5, 1));
        DUE.is("its lowest byte", AT + 12 & 255 | 3, x.board.peek(127) >>> 24);
        x.poke((AT + 8) / 4, 4321);
        x.does(signs, Code.one(Code.P | Code.L, 2, 15, 0));
        DUE.is("Rn is A + 8", 4321, x.get(2));
        x.put(3, 5, 0);
        x.does(signs, Code.one(Code.P | Code.U | Code.L | Code.BY_REGISTER, 3, 5, 15));
        DUE.is("Rm is A + 8", 4321, x.get(3));
    }

    // ---- TRANSFER of many

    /** "k of them (none: nothing is done, 1 TICK)" */
    private static void manyOfNone() {
        for (int base : new int[] {0x200, 0x1000, 0x4000000, -1}) {
            for (int bits = 0; bits < 32; bits++) {
                Bench x = new Bench();
                x.put(3, 5, base);
                DUE.is("TICKS of none", 1, x.does(QUIET, Code.many(bits << 20, 5)));
                DUE.is("Rn stays", base, x.get(5));
                DUE.is("R15", QUIET | AT + 4, x.r15());
                DUE.is("no TRAP", 0, x.board.count(5) + x.board.count(6));
            }
        }
    }

    /** "those registers whose bits (0 .. 15) are 1 .., the lowest one at the lowest ADDRESS" */
    private static void manyInOrder() {
        for (int lacks = -1; lacks < 16; lacks++) {
            Bench x = new Bench();
            int list = 0xFFFF & ~(lacks < 0 ? 0 : 1 << lacks);
            for (int r = 0; r < 15; r++) {
                x.put(3, r, 0x400 + r);
            }
            x.does(QUIET, Code.many(Code.U, 7) | list);
            int at = 0x407 / 4;
            for (int r = 0; r < 15; r++) {
                if (r != lacks) {
                    DUE.is("R" + r + " is stored without R" + lacks, 0x400 + r, x.board.peek(at++));
                }
            }
            for (int k = 0; k < 16; k++) {
                x.poke(0x404 / 4 + k, 0x200 + 4 * k);
            }
            x.does(QUIET, Code.many(Code.U, 7) | Code.L | list);
            at = 0x200;
            for (int r = 0; r < 15; r++) {
                DUE.is("R" + r + " is loaded without R" + lacks, r == lacks ? 0x400 + r : at, x.get(r));
                at += r == lacks ? 0 : 4;
            }
            DUE.is("PC without R" + lacks, QUIET | (lacks == 15 ? AT + 4 : at), x.r15());
        }
    }

    /** "(2 and k; 3 more if PC is put.)" */
    private static void manyTicks() {
        for (int k = 1; k <= 15; k++) {
            Bench x = new Bench();
            int[] registers = java.util.Arrays.copyOf(ALL, k);
            x.put(3, 0, 0x200);
            DUE.is("TICKS of " + k, 2 + k, x.does(QUIET, Code.many(Code.U, 0, registers)));
            DUE.is("TICKS of L of " + k, 2 + k, x.does(QUIET, Code.many(Code.U | Code.L, 0, registers)));
        }
        Bench x = new Bench();
        x.put(3, 0, 0x200);
        DUE.is("TICKS of all", 18, x.does(QUIET, Code.many(Code.U, 0, ALL)));
        DUE.is("TICKS of L of all", 21, x.does(QUIET, Code.many(Code.U | Code.L, 0, ALL)));
        x.put(3, 0, 0x200);
        DUE.is("TICKS of R15", 3, x.does(QUIET, Code.many(Code.U, 0, 15)));
        DUE.is("TICKS of L of R15", 6, x.does(QUIET, Code.many(Code.U | Code.L, 0, 15)));
        DUE.is("TICKS of L of R15 with S", 6, x.does(QUIET, Code.many(Code.U | Code.L | Code.USERS, 0, 15)));
    }

    private static long trapsByMany(int bits, int base, int trap, int... registers) {
        Bench x = new Bench();
        x.put(3, 5, base);
        x.does(QUIET, Code.many(bits, 5, registers));
        DUE.is("no other TRAP", x.board.count(2 + trap), x.board.count(5) + x.board.count(6));
        return x.board.count(2 + trap);
    }

    /** "The beginning is Rn (U, not P), Rn + 4 (U, P), Rn - 4 k + 4 (neither), Rn - 4 k (P, not U). If it is 2^26 or more (without sign): ADDRESS" */
    private static void manyBeginnings() {
        for (int l : new int[] {0, Code.L}) {
            DUE.is("U: the last", 0, trapsByMany(l | Code.U, 0x3FFFFFF, ADDRESS, 1));
            DUE.is("U: 2^26", 1, trapsByMany(l | Code.U, 0x4000000, ADDRESS, 1));
            DUE.is("U, P: the last", 0, trapsByMany(l | Code.U | Code.P, 0x3FFFFFB, ADDRESS, 1));
            DUE.is("U, P: 2^26", 1, trapsByMany(l | Code.U | Code.P, 0x3FFFFFC, ADDRESS, 1));
            DUE.is("U, P: it wraps at 2^32", 0, trapsByMany(l | Code.U | Code.P, -4, ADDRESS, 1));
            DUE.is("neither: 0", 0, trapsByMany(l, 8, ADDRESS, 1, 2, 3));
            DUE.is("neither: below 0", 1, trapsByMany(l, 7, ADDRESS, 1, 2, 3));
            DUE.is("neither: the last", 0, trapsByMany(l, 0x4000007, ADDRESS, 1, 2, 3));
            DUE.is("neither: 2^26", 1, trapsByMany(l, 0x4000008, ADDRESS, 1, 2, 3));
            DUE.is("P: 0", 0, trapsByMany(l | Code.P, 12, ADDRESS, 1, 2, 3));
            DUE.is("P: below 0", 1, trapsByMany(l | Code.P, 11, ADDRESS, 1, 2, 3));
            DUE.is("P: the last", 0, trapsByMany(l | Code.P, 0x400000B, ADDRESS, 1, 2, 3));
            DUE.is("P: 2^26", 1, trapsByMany(l | Code.P, 0x400000C, ADDRESS, 1, 2, 3));
        }
    }

    /** "each 4 behind the one before (wrapping at 2^26; bits 0, 1 are taken as 0)" */
    private static void manyWrap() {
        for (int low = 0; low < 4; low++) {
            Bench x = new Bench();
            x.put(3, 5, 0x3FFFFFC + low);
            x.put(3, 6, 66);
            x.put(3, 7, 77);
            x.does(QUIET, Code.many(Code.U | Code.W, 5, 5, 6, 7));
            DUE.is("behind the last one ADDRESS 0", 66, x.board.peek(0));
            DUE.is("then 4", 77, x.board.peek(1));
            DUE.is("Rn does not wrap", 0x4000008 + low, x.get(5));
            x.put(3, 5, 0x3FFFFFC + low);
            x.does(QUIET, Code.many(Code.U | Code.L, 5, 8, 9, 10));
            DUE.is("0x3FFFFFC gives 0", 0, x.get(8));
            DUE.is("a load from 0", 66, x.get(9));
            DUE.is("a load from 4, not turned", 77, x.get(10));
            x.put(3, 5, 0x200 + low);
            x.does(QUIET, Code.many(Code.U, 5, 6, 7));
            DUE.is("bits 0, 1 are taken as 0", 66, x.board.peek(128));
            DUE.is("of the second, too", 77, x.board.peek(129));
        }
        // An ENTRY is told by bits 0 .. 3 of the ADDRESS: by a TRANSFER of many bits 0, 1 are 0.
        Bench x = new Bench();
        x.put(3, 5, 0x3803007);
        x.does(QUIET, Code.many(Code.U, 5, 6));
        DUE.is("ENTRY 4", 3, x.board.entry(4, 0));
        DUE.is("not ENTRY 7", PageBoard.NONE, x.board.entry(7, 0));
    }

    /** "If one of the words is not ALLOWED: DATA IS TAKEN." */
    private static void manyNotAllowed() {
        for (int l : new int[] {0, Code.L}) {
            DUE.is("the last two of a PAGE", 0, trapsByMany(l | Code.U, 0xFF8, DATA, 1, 2));
            DUE.is("the third is not ALLOWED", 1, trapsByMany(l | Code.U, 0xFF8, DATA, 1, 2, 3));
            DUE.is("the first is not ALLOWED", 1, trapsByMany(l | Code.U, 0x1FFFFFC, DATA, 1, 2));
            DUE.is("MEMORY itself", 0, trapsByMany(l | Code.U, 0x2000000, DATA, 1));
            Bench x = new Bench();
            x.map(2, 2, 0);
            x.put(3, 5, 0xFFC);
            x.does(QUIET, Code.many(l | Code.U, 5, 1, 2));
            DUE.is("one in the middle", 1, x.board.count(5));
            x.put(3, 5, 0x1FFC);
            x.does(QUIET, Code.many(l | Code.U, 5, 1, 2));
            DUE.is("only the first of two", 2, x.board.count(5));
            x.map(1, 1, 0);
            x.does(QUIET, Code.many(l | Code.U, 5, 1, 2));
            DUE.is("two PAGES", 2, x.board.count(5));
        }
        Bench x = new Bench();
        x.map(1, 1, 1);
        x.put(0, 5, 0xFFC);
        x.does(Code.USER | Code.I | Code.F, Code.many(Code.U | Code.L, 5, 1, 2));
        DUE.is("USER may read both", 0, x.board.count(5));
        x.does(Code.USER | Code.I | Code.F, Code.many(Code.U, 5, 1, 2));
        DUE.is("USER may not write one", 1, x.board.count(5));
        x.does(QUIET, Code.many(Code.U | Code.USERS | Code.W, 5, 1, 2));
        DUE.is("S does not ask as for USER", 1, x.board.count(5));
    }

    /** "what comes to Rn counts; from Rn, if it is the lowest, what it was ahead of all is taken, else what it is now" */
    private static void manyWithRn() {
        Bench x = new Bench();
        x.put(3, 5, 0x200);
        x.does(QUIET, Code.many(Code.U | Code.W, 5, 5));
        DUE.is("Rn alone", 0x200, x.board.peek(128));
        DUE.is("Rn behind it", 0x204, x.get(5));
        x.put(3, 5, 0x200);
        x.does(QUIET, Code.many(Code.U | Code.W, 5, 5, 14));
        DUE.is("the lowest", 0x200, x.board.peek(128));
        x.put(3, 5, 0x200);
        x.does(QUIET, Code.many(Code.U | Code.W, 5, 4, 5));
        DUE.is("the highest", 0x208, x.board.peek(129));
        x.put(3, 5, 0x208);
        x.does(QUIET, Code.many(Code.P | Code.W, 5, 4, 5));
        DUE.is("downwards, not the lowest", 0x200, x.board.peek(129));
        x.put(3, 5, 0x208);
        x.does(QUIET, Code.many(Code.P | Code.W, 5, 5, 6));
        DUE.is("downwards, the lowest", 0x208, x.board.peek(128));
        x.put(3, 5, 0x200);
        x.does(QUIET, Code.many(Code.U, 5, 4, 5));
        DUE.is("without W", 0x200, x.board.peek(129));
        x.poke(128, 1111);
        x.put(3, 5, 0x200);
        x.does(QUIET, Code.many(Code.U | Code.W | Code.L, 5, 5));
        DUE.is("what comes to Rn counts", 1111, x.get(5));
    }

    /** "from R15 A + 12 with all SIGNS; to R15 only PC, with S SIGNS are SET from that word, too (behind all else)" */
    private static void manyWithR15() {
        Bench x = new Bench();
        int signs = QUIET | 0xF0000000;
        x.put(3, 5, 0x200);
        x.does(signs, Code.many(Code.U, 5, 15));
        DUE.is("A + 12", signs | AT + 12, x.board.peek(128));
        x.poke(128, -1);
        x.does(QUIET, Code.many(Code.U | Code.L, 5, 15));
        DUE.is("only PC", QUIET | 0x3FFFFFC, x.r15());
        x.does(QUIET, Code.many(Code.U | Code.L | Code.USERS, 5, 15));
        DUE.is("with S all", -1, x.r15());
        x.does(Code.USER, Code.many(Code.U | Code.L | Code.USERS, 5, 15));
        DUE.is("by USER PC and flags", 0xF3FFFFFC, x.r15());
        // R13 comes to the MODE that was, though the word for R15 is another one's.
        x.poke(128, 1313);
        x.poke(129, Code.I | Code.F | Code.IRQ | 0x40);
        x.does(QUIET, Code.many(Code.U | Code.L | Code.USERS, 5, 13, 15));
        DUE.is("behind all else", 1313, x.board.register(3, 13));
        DUE.is("not the new MODE's", 0, x.board.register(2, 13));
        DUE.is("not USER's", 0, x.board.register(0, 13));
        x.does(QUIET, Code.many(Code.U | Code.W | Code.L, 15, 1));
        DUE.is("R15 as Rn is not written back", QUIET | AT + 4, x.r15());
    }

    /** "it is the registers of USER that are moved; Rn is still that of the MODE (where register n of USER is another one, that one gives what it is)" */
    private static void manyOfUser() {
        for (int mode = 1; mode < 4; mode++) {
            Bench x = new Bench();
            int quiet = mode | Code.I | Code.F;
            x.put(0, 13, 1130);
            x.put(mode, 13, 0x200);
            x.does(quiet, Code.many(Code.U | Code.W | Code.USERS, 13, 13));
            DUE.is("R13 of USER, the lowest", 1130, x.board.peek(128));
            DUE.is("Rn of the MODE behind it", 0x204, x.board.register(mode, 13));
            DUE.is("R13 of USER stays", 1130, x.board.register(0, 13));
            x.poke(129, 2222);
            x.does(quiet, Code.many(Code.U | Code.W | Code.L | Code.USERS, 13, 13));
            DUE.is("R13 of USER is loaded", 2222, x.board.register(0, 13));
            DUE.is("Rn is written back", 0x208, x.board.register(mode, 13));
            x.put(0, 8, 88);
            x.put(mode, 8, 0x200);
            x.does(quiet, Code.many(Code.U | Code.W | Code.USERS, 8, 8));
            DUE.is("R8 by " + mode, mode == Code.FIQ ? 88 : 0x200, x.board.peek(128));
            x.put(0, 8, 88);
            x.put(mode, 8, 0x200);
            x.does(quiet, Code.many(Code.U | Code.W | Code.USERS, 8, 7, 8));
            DUE.is("R8, not the lowest, by " + mode, mode == Code.FIQ ? 88 : 0x208, x.board.peek(129));
            x.put(mode, 7, 0x200);
            x.does(quiet, Code.many(Code.U | Code.W | Code.USERS, 7, 7, 13, 15));
            DUE.is("R7 is one for all", 0x200, x.board.peek(128));
            DUE.is("R13 of USER", 2222, x.board.peek(129));
            DUE.is("R15 has the SIGNS of the MODE", quiet | AT + 12, x.board.peek(130));
        }
    }

    // ---- BRANCH and the rest

    /** "PC becomes A + 8 + 4 * bits 0 .. 23 (with sign). Bit 24: R14 becomes A + 4 with all SIGNS." */
    private static void branches() {
        int[][] due = {
            // A, words, to
            {AT, 0, AT + 8}, {AT, -1, AT + 4}, {AT, -2, AT}, {AT, 0x7FFFFF, AT + 8 + 0x1FFFFFC}, {AT, 0x800000, AT + 8 + 0x2000000},
            {0, -3, 0x3FFFFFC}, {0, -2, 0}, {0x2FFFFFC, 0x3FFFFE, 0x3FFFFFC}, {0x2FFFFFC, 0x3FFFFF, 0}, {0x2FFFFFC, 0x7FFFFF, 0x1000000},
            {0x2FFFFFC, 0x800000, 0x1000004},
        };
        for (int[] d : due) {
            Bench x = new Bench();
            int signs = QUIET | 0xF0000000;
            x.put(3, 14, 14);
            DUE.is("TICKS", 4, x.doesAt(d[0], signs, Code.branch(d[1])));
            DUE.is("from " + d[0] + " by " + d[1], signs | d[2], x.r15());
            DUE.is("R14 stays", 14, x.get(14));
            DUE.is("TICKS", 4, x.doesAt(d[0], signs, Code.link(d[1])));
            DUE.is("from " + d[0] + " by " + d[1] + " with R14", signs | d[2], x.r15());
            DUE.is("R14", signs | d[0] + 4, x.get(14));
        }
    }

    /** "110, 1110: UNDEFINED. 1111: SWI." and "(with bit 4 1: UNDEFINED)" */
    private static void lastInstructions() {
        int[] undefined = {0xEC000000, 0xECFFFFFF, 0xED000000, 0xEDFFFFFF, 0xEE000000, 0xEEFFFFFF, 0xE6000010, 0xE7FFFFFF};
        int[] swi = {0xEF000000, 0xEFFFFFFF};
        int[] neither = {0xEB000000, 0xE6500000, 0xE5510FFF, 0xE8000000};
        Bench x = new Bench();
        for (int word : undefined) {
            x.does(QUIET, word);
        }
        DUE.is("UNDEFINED", undefined.length, x.board.count(2));
        DUE.is("no SWI", 0, x.board.count(3));
        for (int word : swi) {
            x.does(QUIET, word);
        }
        for (int word : neither) {
            x.put(3, 0, 0);
            x.put(3, 1, 0xFFF);
            x.does(QUIET, word);
        }
        DUE.is("no more UNDEFINED", undefined.length, x.board.count(2));
        DUE.is("SWI", swi.length, x.board.count(3));
        DUE.is("no other", 0, x.board.count(4) + x.board.count(5) + x.board.count(6));
    }
}
