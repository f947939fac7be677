/** A board on the bench: short ways to have it do one instruction, or to reach its devices. */
final class Bench {
    /** Where instructions are put: an ADDRESS of the first PAGE. */
    static final int AT = 0x100;
    static final int QUIET = Code.I | Code.F | Code.SVC;

    private static final int SELDOM = 0x2000FF0;
    private static final int SELDOM_WORD = 1020;

    final PageBoard board = new PageBoard();

    void poke(int i, int word) {
        int second = i + 1 < 16384 ? board.peek(i + 1) : 0;
        if (i + 1 < 16384) {
            board.poke(i, word, second);
        } else {
            board.poke(i - 1, board.peek(i - 1), word);
        }
    }

    void put(int mode, int r, int v) {
        if (!board.put(mode, r, v)) {
            throw new IllegalStateException("no register " + mode + " " + r);
        }
    }

    int get(int r) {
        return board.register(board.register(0, 15) & 3, r);
    }

    int r15() {
        return board.register(0, 15);
    }

    int pc() {
        return r15() & 0x3FFFFFC;
    }

    int signs() {
        return r15() & ~0x3FFFFFC;
    }

    /** Does one instruction, in the MODE and with the SIGNS told, at AT: its TICKS. */
    int does(int signs, int instruction) {
        return doesAt(AT, signs, instruction);
    }

    int doesAt(int address, int signs, int instruction) {
        poke(address / 4 % 16384, instruction);
        put(0, 15, signs | address);
        return ticksOfStep();
    }

    int ticksOfStep() {
        long before = board.count(0);
        board.step(1);
        return (int) (board.count(0) - before);
    }

    /** Writes a word by a STEP of 4 TICKS; R0 and R1 are used. */
    void write(int address, int v) {
        put(Code.SVC, 0, v);
        put(Code.SVC, 1, address);
        atSeldom(Code.one(Code.P | Code.U, 0, 1, 0));
    }

    void writeByte(int address, int v) {
        put(Code.SVC, 0, v);
        put(Code.SVC, 1, address);
        atSeldom(Code.one(Code.P | Code.U | Code.B, 0, 1, 0));
    }

    int read(int address) {
        put(Code.SVC, 1, address);
        atSeldom(Code.one(Code.P | Code.U | Code.L, 0, 1, 0));
        return board.register(Code.SVC, 0);
    }

    private void atSeldom(int instruction) {
        poke(SELDOM_WORD, instruction);
        put(0, 15, QUIET | SELDOM);
        board.step(1);
    }

    static int device(int w) {
        return 0x3000000 + 4 * w;
    }

    void writeDevice(int w, int v) {
        write(device(w), v);
    }

    /**
     * Goes on by so many TICKS, one each STEP: from 0x3000000 on each fetch is a 0, which is an
     * instruction that is not so without Z.
     */
    void wait(int ticks) {
        for (int gone = 0; gone < ticks; gone += 20000) {
            put(0, 15, QUIET | 0x3000000);
            board.run(Math.min(20000, ticks - gone));
        }
    }

    /** The same for many TICKS, four at a time. */
    void waitByFours(int ticks) {
        poke(SELDOM_WORD, Code.STAY);
        put(0, 15, QUIET | SELDOM);
        for (int gone = 0; gone < ticks; gone += 20000) {
            board.run(Math.min(20000, ticks - gone));
        }
    }

    /** ENTRY e gets a NUMBER and a LEVEL. */
    void map(int e, int number, int level) {
        write(0x3800000 | (number & 0x7FF) << 12 | number >> 11 << 10 | level << 8 | e, 0);
    }

    void os(int on) {
        write(0x36E0000 | on << 12, 0);
    }
}
