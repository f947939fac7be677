/** Writes instructions: all of them with the CONDITION always. */
final class Code {
    static final int AND = 0, EOR = 1, SUB = 2, RSB = 3, ADD = 4, ADC = 5, SBC = 6, RSC = 7;
    static final int TST = 8, TEQ = 9, CMP = 10, CMN = 11, ORR = 12, MOV = 13, BIC = 14, MVN = 15;
    static final int LSL = 0, LSR = 1, ASR = 2, ROR = 3;
    static final int S = 1 << 20;
    static final int L = 1 << 20, W = 1 << 21, B = 1 << 22, USERS = 1 << 22, U = 1 << 23, P = 1 << 24;
    static final int BY_REGISTER = 1 << 25;
    static final int N = 1 << 31, Z = 1 << 30, C = 1 << 29, V = 1 << 28, I = 1 << 27, F = 1 << 26;
    static final int USER = 0, FIQ = 1, IRQ = 2, SVC = 3;
    static final int SWI = 0xEF000000;
    static final int UNDEFINED = 0xEE000000;
    static final int NEVER = 0xF0000000;
    /** A BRANCH to itself. */
    static final int STAY = 0xEAFFFFFE;

    private static final int ALWAYS = 0xE0000000;

    private Code() {
    }

    static int work(int kind, int s, int d, int n, int operand) {
        return ALWAYS | kind << 21 | s | n << 16 | d << 12 | operand;
    }

    static int turned(int b, int halfTurn) {
        return 1 << 25 | halfTurn << 8 | b;
    }

    static int shifted(int m, int kind, int k) {
        return k << 7 | kind << 5 | m;
    }

    static int shiftedBy(int m, int kind, int s) {
        return s << 8 | kind << 5 | 1 << 4 | m;
    }

    /** Rto becomes Rm * Rs, with W + Radded. */
    static int multiply(int bits, int to, int m, int s, int added) {
        return ALWAYS | bits | to << 16 | added << 12 | s << 8 | 9 << 4 | m;
    }

    static int one(int bits, int d, int n, int offset) {
        return ALWAYS | 1 << 26 | bits | n << 16 | d << 12 | offset;
    }

    static int many(int bits, int n, int... registers) {
        int list = 0;
        for (int r : registers) {
            list |= 1 << r;
        }
        return ALWAYS | 1 << 27 | bits | n << 16 | list;
    }

    static int branch(int words) {
        return ALWAYS | 5 << 25 | words & 0xFFFFFF;
    }

    static int link(int words) {
        return branch(words) | 1 << 24;
    }

    static int when(int condition, int instruction) {
        return instruction & 0xFFFFFFF | condition << 28;
    }
}
