import java.util.ArrayList;
import java.util.List;

/**
 * The document once more, said as plainly as can be: words are longs without sign, flags are
 * booleans, devices go on TICK by TICK. Slow, and without the checks of arguments: BesideTest
 * asks it and PageBoard the same.
 */
final class PlainBoard {
    private static final long TWO_32 = 1L << 32;
    private static final long TWO_26 = 1L << 26;

    private static final class Taken extends RuntimeException {
        private static final long serialVersionUID = 1;
        final String trap;

        Taken(String trap) {
            super(trap, null, false, false);
            this.trap = trap;
        }
    }

    final long[] memory = new long[16384];
    final long[][] sectors = new long[16][1024];
    final int[][] picture = new int[32][64];
    final List<Integer> out = new ArrayList<>();
    final long[] counts = new long[13];
    int stop = -1;

    private long[] user, fiq, irq, svc;
    private boolean n, z, c, v, f, i;
    private int mode;
    private long pc;

    private int[] number, level;
    private int[] colour;
    private int border, depth, start, low, high, video, os;

    private int serialLast, maskA, maskB, maskF, txLeft, diskLeft;
    private boolean rx, field, diskReady, diskWrong, diskToPage;
    private int sector, page, copySector, copyPage;
    private int[] latch, count, seen;
    private boolean[] timerBit;
    private long sinceReset;

    private long instr, at;
    private boolean operandCarry;

    PlainBoard() {
        reset();
    }

    void reset() {
        user = new long[15];
        fiq = new long[15];
        irq = new long[15];
        svc = new long[15];
        n = z = c = v = false;
        f = i = true;
        mode = 3;
        pc = 0;
        number = new int[16];
        level = new int[16];
        for (int e = 1; e < 16; e++) {
            number[e] = -1;
        }
        colour = new int[16];
        border = depth = start = low = high = video = os = 0;
        serialLast = maskA = maskB = maskF = txLeft = diskLeft = sector = page = 0;
        rx = field = diskReady = diskWrong = false;
        latch = new int[2];
        count = new int[2];
        seen = new int[2];
        timerBit = new boolean[2];
        sinceReset = 0;
    }

    // ---- registers

    private long[] bank(int m, int r) {
        if (m == 1 && r >= 8) {
            return fiq;
        }
        if (m == 2 && r >= 13) {
            return irq;
        }
        return m == 3 && r >= 13 ? svc : user;
    }

    private long signs() {
        return (n ? 1L << 31 : 0) + (z ? 1L << 30 : 0) + (c ? 1L << 29 : 0) + (v ? 1L << 28 : 0)
            + (i ? 1L << 27 : 0) + (f ? 1L << 26 : 0) + mode;
    }

    int register(int m, int r) {
        return (int) (r == 15 ? signs() + pc : bank(m, r)[r]);
    }

    void put(int m, int r, int value) {
        long w = value & (TWO_32 - 1);
        if (r == 15) {
            mode = 3;
            setSigns(w);
            pc = pcBits(w);
        } else {
            bank(m, r)[r] = w;
        }
    }

    private static boolean bit(long w, int k) {
        return (w >> k) % 2 == 1;
    }

    private static long bits(long w, int from, int to) {
        return (w >> from) % (1L << (to - from + 1));
    }

    private static long pcBits(long w) {
        return bits(w, 2, 25) * 4;
    }

    private void setSigns(long w) {
        n = bit(w, 31);
        z = bit(w, 30);
        c = bit(w, 29);
        v = bit(w, 28);
        if (mode != 0) {
            i = bit(w, 27);
            f = bit(w, 26);
            mode = (int) (w % 4);
        }
    }

    private long get(long r, int ahead) {
        return r == 15 ? (at + ahead) % TWO_26 : bank(mode, (int) r)[(int) r];
    }

    private long r15With(int ahead) {
        return signs() + (at + ahead) % TWO_26;
    }

    private void set(long r, long w) {
        if (r == 15) {
            pc = pcBits(w);
        } else {
            bank(mode, (int) r)[(int) r] = wrap(w);
        }
    }

    private static long wrap(long w) {
        return ((w % TWO_32) + TWO_32) % TWO_32;
    }

    private static long signed(long w) {
        return w >= TWO_32 / 2 ? w - TWO_32 : w;
    }

    // ---- addresses

    int allowed(int m, long address, boolean write) {
        if (address >= 0x2000000) {
            return m == 0 ? 0 : 1;
        }
        int e = entryAt(address);
        if (e < 0) {
            return 0;
        }
        boolean all = m != 0 || level[e] == 0;
        boolean some = write ? level[e] == 1 && os == 1 : level[e] == 1 || os == 1;
        return all || some ? 1 : 0;
    }

    private int entryAt(long address) {
        for (int e = 0; e < 16; e++) {
            if (number[e] == address / 4096) {
                return e;
            }
        }
        return -1;
    }

    /** The word of MEMORY, or -1. */
    private int wordAt(long address) {
        if (address < 0x2000000) {
            return entryAt(address) * 1024 + (int) (address % 4096 / 4);
        }
        return address < 0x3000000 ? (int) (address % 65536 / 4) : -1;
    }

    private long read(int word, long address) {
        if (word >= 0) {
            return memory[word];
        }
        if (address >= 0x3400000) {
            return 0;
        }
        int w = (int) ((address - 0x3000000) / 4);
        int answer = device(w);
        if (w == 0x80001) {
            rx = false;
        }
        if (w == 0x4002) {
            diskReady = false;
        }
        return answer;
    }

    private void write(int word, long address, long value, boolean one) {
        if (word >= 0) {
            if (!one) {
                memory[word] = value;
                return;
            }
            long unit = 1L << 8 * (address % 4);
            long old = memory[word] / unit % 256;
            memory[word] += (value % 256 - old) * unit;
            return;
        }
        long w = one ? value % 256 * (1 + 256 + 65536 + 16777216) : value;
        if (address < 0x3400000) {
            writeDevice((int) ((address - 0x3000000) / 4), (int) (w % 256));
        } else if (address < 0x3600000) {
            int what = (int) bits(w, 26, 31);
            if (what <= 15) {
                colour[what] = (int) bits(w, 0, 12);
            } else if (what == 16) {
                border = (int) bits(w, 0, 12);
            } else if (what == 56) {
                depth = (int) bits(w, 2, 3);
            }
        } else if (address < 0x3800000) {
            int told = (int) bits(address, 2, 16);
            int what = (int) bits(address, 17, 19);
            start = what == 0 ? told : start;
            low = what == 1 ? told : low;
            high = what == 2 ? told : high;
            video = what == 7 ? (int) bits(address, 10, 10) : video;
            os = what == 7 ? (int) bits(address, 12, 12) : os;
        } else {
            int e = (int) bits(address, 0, 3);
            level[e] = (int) bits(address, 8, 9);
            number[e] = bit(address, 4) ? -1 : (int) (bits(address, 12, 22) + 2048 * bits(address, 10, 11));
        }
    }

    // ---- devices

    private int statusA() {
        return 128 + (field ? 8 : 0) + (timerBit[0] ? 32 : 0) + (timerBit[1] ? 64 : 0);
    }

    private int statusB() {
        return (diskReady ? 8 : 0) + (txLeft == 0 ? 64 : 0) + (rx ? 128 : 0);
    }

    private int statusF() {
        return 128 + (diskReady ? 1 : 0);
    }

    int device(int w) {
        int t = (w - 0x80010) / 4;
        switch (w) {
            case 0x80001: return serialLast;
            case 0x80004: return statusA();
            case 0x80005: return statusA() & maskA;
            case 0x80006: return maskA;
            case 0x80008: return statusB();
            case 0x80009: return statusB() & maskB;
            case 0x8000A: return maskB;
            case 0x8000C: return statusF();
            case 0x8000D: return statusF() & maskF;
            case 0x8000E: return maskF;
            case 0x80010: case 0x80014: return seen[t] % 256;
            case 0x80011: case 0x80015: return seen[t] / 256;
            case 0x4000: return sector;
            case 0x4001: return page;
            case 0x4002: return diskLeft > 0 ? 1 : diskWrong ? 2 : 0;
            default: return 0;
        }
    }

    private void writeDevice(int w, int b) {
        if (w >= 0x80010 && w <= 0x80017) {
            int t = (w - 0x80010) / 4;
            switch (w % 4) {
                case 0: latch[t] = latch[t] / 256 * 256 + b; break;
                case 1: latch[t] = latch[t] % 256 + 256 * b; break;
                case 2: count[t] = latch[t]; break;
                default: seen[t] = count[t]; break;
            }
        }
        switch (w) {
            case 0x80001:
                out.add(b);
                counts[12]++;
                txLeft = 256;
                break;
            case 0x80005:
                field &= !bit(b, 3);
                timerBit[0] &= !bit(b, 5);
                timerBit[1] &= !bit(b, 6);
                break;
            case 0x80006: maskA = b; break;
            case 0x8000A: maskB = b; break;
            case 0x8000E: maskF = b; break;
            case 0x4000: sector = b; break;
            case 0x4001: page = b; break;
            case 0x4002:
                if (diskLeft == 0) {
                    diskWrong = sector > 15 || page > 15 || b != 1 && b != 2;
                    diskReady |= diskWrong;
                    diskLeft = diskWrong ? 0 : 5000;
                    copySector = sector;
                    copyPage = page;
                    diskToPage = b == 1;
                }
                break;
            default: break;
        }
    }

    boolean key(int b) {
        if (rx) {
            return false;
        }
        serialLast = b & 255;
        rx = true;
        return true;
    }

    private void tick() {
        counts[0]++;
        sinceReset++;
        for (int t = 0; t < 2 && sinceReset % 4 == 0; t++) {
            if (latch[t] != 0) {
                count[t] = (count[t] + 65535) % 65536;
                if (count[t] == 0) {
                    count[t] = latch[t];
                    timerBit[t] = true;
                }
            }
        }
        if (txLeft > 0) {
            txLeft--;
        }
        if (diskLeft > 0 && --diskLeft == 0) {
            diskReady = true;
            for (int k = 0; k < 1024; k++) {
                if (diskToPage) {
                    memory[copyPage * 1024 + k] = sectors[copySector][k];
                } else {
                    sectors[copySector][k] = memory[copyPage * 1024 + k];
                }
                counts[11]++;
            }
        }
        if (sinceReset % 20000 == 0) {
            makePicture();
            counts[9]++;
            field = true;
        }
    }

    private void makePicture() {
        int at = start * 16 % 65536;
        int taken = 0;
        for (int y = 0; y < 32; y++) {
            for (int x = 0; x < 64; x++) {
                if (video == 0) {
                    picture[y][x] = border;
                    continue;
                }
                int value = 0;
                for (int b = 0; b < 1 << depth; b++) {
                    if (bit(memory[at / 4], at % 4 * 8 + taken)) {
                        value += 1 << b;
                    }
                    taken++;
                    if (taken == 8) {
                        taken = 0;
                        at = at == (high * 16 + 15) % 65536 ? low * 16 % 65536 : (at + 1) % 65536;
                    }
                }
                picture[y][x] = colour[value % 16] ^ value / 16 * 256;
            }
        }
    }

    int look(int what) {
        switch (what) {
            case 0: return depth;
            case 1: return video;
            case 2: return os;
            case 3: return start;
            case 4: return low;
            case 5: return high;
            case 6: return border;
            case 7: return count[0];
            case 8: return count[1];
            case 9: return diskLeft;
            case 10: return txLeft;
            case 11: return (int) (20000 - sinceReset % 20000);
            case 12: return irqLine() ? 1 : 0;
            case 13: return fiqLine() ? 1 : 0;
            case 14: case 15: return -1;
            default: return colour[what - 16];
        }
    }

    int entry(int e, int what) {
        return what == 0 ? number[e] : level[e];
    }

    int letter(int k) {
        int oldest = Math.max(0, out.size() - 4000);
        return oldest + k < out.size() ? out.get(oldest + k) : -1;
    }

    private boolean irqLine() {
        return (statusA() & maskA) != 0 || (statusB() & maskB) != 0;
    }

    private boolean fiqLine() {
        return (statusF() & maskF) != 0;
    }

    // ---- steps

    int step(int most) {
        for (int k = 1; k <= most; k++) {
            one();
            if (pc == stop) {
                return k;
            }
        }
        return most;
    }

    int run(int ticks) {
        long end = counts[0] + ticks;
        int steps = 0;
        do {
            one();
            steps++;
        } while (counts[0] < end && pc != stop);
        return steps;
    }

    private void one() {
        at = pc;
        int ticks;
        try {
            ticks = instruction();
        } catch (Taken t) {
            take(t.trap);
            ticks = 4;
        }
        counts[1]++;
        for (int k = 0; k < ticks; k++) {
            tick();
        }
    }

    private void take(String trap) {
        switch (trap) {
            case "UNDEFINED": vector(2, 3, 4, 4); break;
            case "SWI": vector(3, 3, 4, 8); break;
            case "PREFETCH": vector(4, 3, 4, 12); break;
            case "DATA": vector(5, 3, 8, 16); break;
            case "ADDRESS": vector(6, 3, 8, 20); break;
            case "IRQ": vector(7, 2, 4, 24); break;
            default:
                vector(8, 1, 4, 28);
                f = true;
                break;
        }
    }

    private void vector(int counted, int m, int ahead, int to) {
        counts[counted]++;
        bank(m, 14)[14] = r15With(ahead);
        mode = m;
        i = true;
        pc = to;
    }

    private boolean conditionIsSo() {
        switch ((int) bits(instr, 28, 31)) {
            case 0: return z;
            case 1: return !z;
            case 2: return c;
            case 3: return !c;
            case 4: return n;
            case 5: return !n;
            case 6: return v;
            case 7: return !v;
            case 8: return c && !z;
            case 9: return !c || z;
            case 10: return n == v;
            case 11: return n != v;
            case 12: return n == v && !z;
            case 13: return n != v || z;
            case 14: return true;
            default: return false;
        }
    }

    private int instruction() {
        if (fiqLine() && !f) {
            throw new Taken("FIQ");
        }
        if (irqLine() && !i) {
            throw new Taken("IRQ");
        }
        if (allowed(mode, at, false) == 0) {
            throw new Taken("PREFETCH");
        }
        int word = wordAt(at);
        instr = word < 0 ? 0 : memory[word];
        if (!conditionIsSo()) {
            counts[10]++;
            pc = (at + 4) % TWO_26;
            return 1;
        }
        int ticks = doIt();
        return ticks;
    }

    private void next() {
        pc = (at + 4) % TWO_26;
    }

    private int doIt() {
        String top = (bit(instr, 27) ? "1" : "0") + (bit(instr, 26) ? "1" : "0") + (bit(instr, 25) ? "1" : "0");
        switch (top) {
            case "000":
                if (bits(instr, 22, 24) == 0 && bits(instr, 4, 7) == 9) {
                    return multiply();
                }
                if (bit(instr, 4) && bit(instr, 7)) {
                    throw new Taken("UNDEFINED");
                }
                return work();
            case "001": return work();
            case "010": return single();
            case "011":
                if (bit(instr, 4)) {
                    throw new Taken("UNDEFINED");
                }
                return single();
            case "100": return many();
            case "101":
                if (bit(instr, 24)) {
                    set(14, r15With(4));
                }
                long offset = bits(instr, 0, 23);
                offset = offset >= 1 << 23 ? offset - (1 << 24) : offset;
                pc = (at + 8 + 4 * offset + TWO_26) % TWO_26;
                return 4;
            case "110": throw new Taken("UNDEFINED");
            default: throw new Taken(bit(instr, 24) ? "SWI" : "UNDEFINED");
        }
    }

    private int multiply() {
        long rs = get(bits(instr, 8, 11), 8);
        long rm = get(bits(instr, 0, 3), 8);
        long added = bit(instr, 21) ? get(bits(instr, 12, 15), 8) : 0;
        long result = java.math.BigInteger.valueOf(rs).multiply(java.math.BigInteger.valueOf(rm))
            .add(java.math.BigInteger.valueOf(added)).mod(java.math.BigInteger.valueOf(TWO_32)).longValue();
        next();
        if (bits(instr, 16, 19) != 15) {
            set(bits(instr, 16, 19), result);
        }
        if (bit(instr, 20)) {
            n = bit(result, 31);
            z = result == 0;
        }
        int length = rs == 0 ? 0 : Long.toBinaryString(rs).length();
        return 1 + Math.max(1, length / 2 + length % 2);
    }

    private long shift(long w, long kind, long k, boolean byBits) {
        if (byBits && k == 0 && kind == 3) {
            operandCarry = bit(w, 0);
            return w / 2 + (c ? TWO_32 / 2 : 0);
        }
        long times = byBits && k == 0 && kind != 0 ? 32 : k;
        long r = w;
        boolean carry = c;
        // One place at a time: what falls out last is the carry.
        for (int t = 0; t < times; t++) {
            if (kind == 0) {
                carry = bit(r, 31);
                r = r * 2 % TWO_32;
            } else {
                carry = bit(r, 0);
                boolean top = kind == 2 ? bit(r, 31) : kind == 3 && carry;
                r = r / 2 + (top ? TWO_32 / 2 : 0);
            }
        }
        operandCarry = carry;
        return r;
    }

    private int work() {
        long op = bits(instr, 21, 24);
        boolean s = bit(instr, 20);
        boolean test = op >= 8 && op <= 11;
        if (test && !s) {
            throw new Taken("UNDEFINED");
        }
        int ticks = 1;
        int ahead = 8;
        long y;
        if (bit(instr, 25)) {
            long turn = 2 * bits(instr, 8, 11);
            y = shift(bits(instr, 0, 7), 3, turn, false);
        } else {
            boolean byRegister = bit(instr, 4);
            ahead = byRegister ? 12 : 8;
            ticks = byRegister ? 2 : 1;
            long k = byRegister ? get(bits(instr, 8, 11), 8) % 256 : bits(instr, 7, 11);
            long m = bits(instr, 0, 3);
            y = shift(m == 15 ? r15With(ahead) : get(m, 8), bits(instr, 5, 6), k, !byRegister);
        }
        long x = get(bits(instr, 16, 19), ahead);
        boolean carry = operandCarry;
        boolean over = v;
        int one = c ? 1 : 0;
        long result;
        switch ((int) op) {
            case 0: case 8: result = x & y; break;
            case 1: case 9: result = x ^ y; break;
            case 12: result = x | y; break;
            case 13: result = y; break;
            case 14: result = x - (x & y); break;
            case 15: result = TWO_32 - 1 - y; break;
            case 4: case 5: case 11:
                int more = op == 5 ? one : 0;
                result = wrap(x + y + more);
                carry = x + y + more >= TWO_32;
                over = signed(x) + signed(y) + more != signed(result);
                break;
            default:
                boolean turned = op == 3 || op == 7;
                long from = turned ? y : x;
                long less = turned ? x : y;
                int borrow = op == 6 || op == 7 ? 1 - one : 0;
                result = wrap(from - less - borrow);
                carry = from - less - borrow >= 0;
                over = signed(from) - signed(less) - borrow != signed(result);
                break;
        }
        long d = bits(instr, 12, 15);
        int before = mode;
        next();
        if (!test) {
            set(d, result);
        }
        if (s && d == 15) {
            setSigns(result);
        } else if (s) {
            n = bit(result, 31);
            z = result == 0;
            c = carry;
            v = over;
        }
        return ticks + (d == 15 && !test || mode != before ? 3 : 0);
    }

    private int single() {
        boolean p = bit(instr, 24), u = bit(instr, 23), b = bit(instr, 22), w = bit(instr, 21), l = bit(instr, 20);
        long n = bits(instr, 16, 19);
        long d = bits(instr, 12, 15);
        long rn = get(n, 8);
        long offset = bit(instr, 25)
            ? shift(get(bits(instr, 0, 3), 8), bits(instr, 5, 6), bits(instr, 7, 11), true)
            : bits(instr, 0, 11);
        long sum = wrap(u ? rn + offset : rn - offset);
        long address = p ? sum : rn;
        if (address >= TWO_26) {
            throw new Taken("ADDRESS");
        }
        if (allowed(!p && w ? 0 : mode, address, !l) == 0) {
            throw new Taken("DATA");
        }
        next();
        int word = wordAt(address);
        boolean back = (!p || w) && n != 15;
        if (l) {
            long value = read(word, address);
            int by = (int) (address % 4 * 8);
            value = b ? value >> by & 255 : wrap(value >> by) + value % (1L << by) * (1L << 32 - by) % TWO_32;
            if (back) {
                set(n, sum);
            }
            set(d, value);
            return d == 15 ? 7 : 4;
        }
        long value = d == 15 ? r15With(12) : get(d, 0);
        if (back) {
            set(n, sum);
        }
        write(word, address, value, b);
        return 4;
    }

    private int many() {
        boolean p = bit(instr, 24), u = bit(instr, 23), s = bit(instr, 22), w = bit(instr, 21), l = bit(instr, 20);
        List<Integer> list = new ArrayList<>();
        for (int r = 0; r < 16; r++) {
            if (bit(instr, r)) {
                list.add(r);
            }
        }
        int k = list.size();
        if (k == 0) {
            next();
            return 1;
        }
        int base = (int) bits(instr, 16, 19);
        long rn = get(base, 8);
        long from = wrap(u ? p ? rn + 4 : rn : p ? rn - 4 * k : rn - 4 * k + 4);
        if (from >= TWO_26) {
            throw new Taken("ADDRESS");
        }
        long[] addresses = new long[k];
        int[] words = new int[k];
        for (int j = 0; j < k; j++) {
            addresses[j] = (from - from % 4 + 4 * j) % TWO_26;
            words[j] = wordAt(addresses[j]);
            if (allowed(mode, addresses[j], !l) == 0) {
                throw new Taken("DATA");
            }
        }
        next();
        boolean toPc = l && bit(instr, 15);
        int bankMode = s && !toPc ? 0 : mode;
        if (w && base != 15) {
            set(base, u ? rn + 4 * k : rn - 4 * k);
        }
        long signsFrom = -1;
        for (int j = 0; j < k; j++) {
            int r = list.get(j);
            if (l) {
                long value = read(words[j], addresses[j]);
                if (r == 15) {
                    pc = pcBits(value);
                    signsFrom = value;
                } else {
                    bank(bankMode, r)[r] = value;
                }
            } else {
                boolean own = bank(bankMode, Math.min(r, 14)) == bank(mode, Math.min(r, 14));
                long value;
                if (r == 15) {
                    value = r15With(12);
                } else if (r == base && j == 0 && own) {
                    value = rn;
                } else {
                    value = bank(bankMode, r)[r];
                }
                write(words[j], addresses[j], value, false);
            }
        }
        if (toPc && s) {
            setSigns(signsFrom);
        }
        return 2 + k + (toPc ? 3 : 0);
    }
}
