import java.util.Arrays;

/** A board of the year 1987, going by TICKS: what it does is told by the document DOC.md. */
public final class PageBoard {
    public static final int NONE = -1;

    private static final int USER_MODE = 0;
    private static final int FIQ_MODE = 1;
    private static final int IRQ_MODE = 2;
    private static final int SVC_MODE = 3;

    private static final int ADDRESSES = 0x4000000;
    private static final int PC_BITS = 0x3FFFFFC;
    private static final int WORDS = 16384;
    private static final int PAGE_WORDS = 1024;
    private static final int DEVICE_WORDS = 0x100000;
    private static final int MOST_STEPS = 5000;
    private static final int MOST_TICKS = 20000;
    private static final int ROW_PLACES = 64;
    private static final int ROWS = 32;

    private final int[] memory;
    private final Registers registers;
    private final Entries entries;
    private final Lines lines;
    private final Serial serial;
    private final Disk disk;
    private final Controller controller;
    private final Screen screen;
    private final Bus bus;
    private final Processor processor;
    private int stopAddress;
    private long ticksGone;
    private long stepsGone;

    public PageBoard() {
        memory = new int[WORDS];
        registers = new Registers();
        entries = new Entries();
        lines = new Lines();
        serial = new Serial(lines);
        disk = new Disk(memory, lines);
        controller = new Controller(lines, serial);
        screen = new Screen(memory, lines);
        bus = new Bus(memory, entries, controller, disk, screen);
        processor = new Processor(registers, bus, lines);
        stopAddress = NONE;
        beginAnew();
    }

    public void reset() {
        beginAnew();
    }

    public boolean poke(int i, int first, int second) {
        if (i < 0 || i >= WORDS - 1) {
            return false;
        }
        memory[i] = first;
        memory[i + 1] = second;
        return true;
    }

    public int peek(int i) throws IndexOutOfBoundsException {
        if (i < 0 || i >= WORDS) {
            throw new IndexOutOfBoundsException("no such word of MEMORY");
        }
        return memory[i];
    }

    public boolean store(int sector, int i, int v) {
        if (!Disk.isWord(sector, i)) {
            return false;
        }
        disk.change(sector, i, v);
        return true;
    }

    public int stored(int sector, int i) throws IndexOutOfBoundsException {
        if (!Disk.isWord(sector, i)) {
            throw new IndexOutOfBoundsException("no such word of a SECTOR");
        }
        return disk.wordOf(sector, i);
    }

    public boolean key(int b) {
        return serial.receive(b);
    }

    public int step(int n) throws IllegalArgumentException {
        if (n < 1 || n > MOST_STEPS) {
            throw new IllegalArgumentException("not 1 .. 5000 STEPS");
        }
        for (int done = 1; done <= n; done++) {
            oneStep();
            if (isAtStop()) {
                return done;
            }
        }
        return n;
    }

    public int run(int ticks) throws IllegalArgumentException {
        if (ticks < 1 || ticks > MOST_TICKS) {
            throw new IllegalArgumentException("not 1 .. 20000 TICKS");
        }
        int gone = 0;
        int done = 0;
        // A STEP has at least one TICK, so there are never more of them than TICKS.
        while (done < ticks && gone < ticks) {
            gone += oneStep();
            done++;
            if (isAtStop()) {
                return done;
            }
        }
        return done;
    }

    public boolean stopAt(int address) {
        if (address == NONE) {
            stopAddress = NONE;
            return true;
        }
        if (address < 0 || address >= ADDRESSES) {
            return false;
        }
        stopAddress = address & PC_BITS;
        return true;
    }

    public int register(int mode, int r) throws IndexOutOfBoundsException {
        if (!Registers.isRegister(mode, r)) {
            throw new IndexOutOfBoundsException("no such register");
        }
        return registers.of(mode, r);
    }

    public boolean put(int mode, int r, int v) {
        if (!Registers.isRegister(mode, r)) {
            return false;
        }
        registers.become(mode, r, v);
        return true;
    }

    public int entry(int e, int what) {
        if (e < 0 || e >= Entries.MANY) {
            return NONE;
        }
        switch (what) {
            case 0: return entries.numberOf(e);
            case 1: return entries.levelOf(e);
            default: return NONE;
        }
    }

    public int device(int w) {
        if (w < 0 || w >= DEVICE_WORDS) {
            return NONE;
        }
        return bus.deviceWord(w);
    }

    public int allowed(int mode, int address, int what) {
        if (mode < USER_MODE || mode > SVC_MODE || what < 0 || what > 1) {
            return NONE;
        }
        if (address < 0 || address >= ADDRESSES) {
            return NONE;
        }
        return bus.find(mode, address, what == 1) == Bus.REFUSED ? 0 : 1;
    }

    public long count(int what) {
        if (what >= 2 && what <= 8) {
            return processor.trapsTaken(what - 2);
        }
        switch (what) {
            case 0: return ticksGone;
            case 1: return stepsGone;
            case 9: return screen.fields;
            case 10: return processor.notSo;
            case 11: return disk.copied;
            case 12: return serial.sent;
            default: return NONE;
        }
    }

    public int look(int what) {
        if (what >= 16 && what <= 31) {
            return screen.colourOf(what - 16);
        }
        switch (what) {
            case 0: return screen.depth;
            case 1: return screen.video;
            case 2: return entries.os;
            case 3: return screen.start;
            case 4: return screen.low;
            case 5: return screen.high;
            case 6: return screen.border;
            case 7: return controller.timer0.count;
            case 8: return controller.timer1.count;
            case 9: return disk.left;
            case 10: return serial.left;
            case 11: return screen.left;
            case 12: return lines.isIrq() ? 1 : 0;
            case 13: return lines.isFiq() ? 1 : 0;
            default: return NONE;
        }
    }

    public int place(int x, int y) {
        if (x < 0 || x >= ROW_PLACES || y < 0 || y >= ROWS) {
            return NONE;
        }
        return screen.placeOf(y * ROW_PLACES + x);
    }

    public int letter(int i) {
        return serial.keptByte(i);
    }

    private void beginAnew() {
        registers.begin();
        entries.begin();
        lines.begin();
        serial.begin();
        disk.begin();
        controller.begin();
        screen.begin();
    }

    private boolean isAtStop() {
        return registers.pc() == stopAddress;
    }

    /** One STEP, and behind it the devices: its TICKS. */
    private int oneStep() {
        int trap = processor.trapAhead();
        int ticks = trap == NONE ? processor.instruction() : processor.take(trap);
        stepsGone++;
        ticksGone += ticks;
        devicesGoOn(ticks);
        return ticks;
    }

    private void devicesGoOn(int ticks) {
        controller.goOn(ticks);
        serial.goOn(ticks);
        // What the DISK copies can be seen in the PICTURE, so the earlier of the two goes first.
        if (disk.left <= screen.left) {
            disk.goOn(ticks);
            screen.goOn(ticks);
        } else {
            screen.goOn(ticks);
            disk.goOn(ticks);
        }
    }

    /** R0 .. R15 of all MODES; R15 is one for all. */
    private static final class Registers {
        static final int V = 1 << 28;
        static final int C = 1 << 29;
        static final int Z = 1 << 30;
        static final int N = 1 << 31;
        static final int F = 1 << 26;
        static final int I = 1 << 27;
        private static final int MODE_BITS = 3;
        private static final int R15 = 15;
        /** For each MODE, by sixteens, where its registers are kept. */
        private static final int[] SLOTS = {
            0, 1, 2, 3, 4, 5, 6, 7, 8, 9, 10, 11, 12, 13, 14, 15,
            0, 1, 2, 3, 4, 5, 6, 7, 16, 17, 18, 19, 20, 21, 22, 15,
            0, 1, 2, 3, 4, 5, 6, 7, 8, 9, 10, 11, 12, 23, 24, 15,
            0, 1, 2, 3, 4, 5, 6, 7, 8, 9, 10, 11, 12, 25, 26, 15,
        };

        private final int[] kept = new int[32];

        static boolean isRegister(int mode, int r) {
            return mode >= USER_MODE && mode <= SVC_MODE && r >= 0 && r <= R15;
        }

        private static int slot(int mode, int r) {
            return SLOTS[((mode & 3) << 4) | (r & 15)] & 31;
        }

        void begin() {
            Arrays.fill(kept, 0);
            kept[R15] = F | I | SVC_MODE;
        }

        int of(int mode, int r) {
            return kept[slot(mode, r)];
        }

        void become(int mode, int r, int v) {
            kept[slot(mode, r)] = v;
        }

        boolean isOneFor(int mode, int otherMode, int r) {
            return slot(mode, r) == slot(otherMode, r);
        }

        int mode() {
            return kept[R15] & MODE_BITS;
        }

        int pc() {
            return kept[R15] & PC_BITS;
        }

        int signs() {
            return kept[R15] & ~PC_BITS;
        }

        boolean has(int sign) {
            return (kept[R15] & sign) != 0;
        }

        int carry() {
            return (kept[R15] >>> 29) & 1;
        }

        void goTo(int address) {
            kept[R15] = signs() | (address & PC_BITS);
        }

        void setSigns(int word) {
            int all = mode() == USER_MODE ? N | Z | C | V : ~PC_BITS;
            change(all, word);
        }

        void setResultSigns(int result) {
            change(N | Z, (result & N) | (result == 0 ? Z : 0));
        }

        void setCarryAndOverflow(int carry, int overflow) {
            change(C | V, (carry != 0 ? C : 0) | (overflow != 0 ? V : 0));
        }

        void enter(int mode, int signsToo, int vector) {
            kept[R15] = (signs() & ~MODE_BITS) | mode | signsToo | vector;
        }

        private void change(int bits, int word) {
            kept[R15] = (kept[R15] & ~bits) | (word & bits);
        }
    }

    /** The memory controller: which PAGE has which NUMBER, and what USER may do there. */
    private static final class Entries {
        static final int MANY = 16;
        private static final int NO_NUMBER_BIT = 1 << 4;

        private final int[] numbers = new int[MANY];
        private final int[] levels = new int[MANY];
        int os;

        void begin() {
            Arrays.fill(numbers, NONE);
            Arrays.fill(levels, 0);
            numbers[0] = 0;
            os = 0;
        }

        int numberOf(int e) {
            return numbers[e & 15];
        }

        int levelOf(int e) {
            return levels[e & 15];
        }

        /** The least ENTRY of that NUMBER, or NONE. */
        int withNumber(int number) {
            for (int e = 0; e < MANY; e++) {
                if (numbers[e] == number) {
                    return e;
                }
            }
            return NONE;
        }

        boolean letsUser(int e, boolean writing) {
            switch (levels[e & 15]) {
                case 0: return true;
                case 1: return !writing || os == 1;
                default: return !writing && os == 1;
            }
        }

        void tell(int address) {
            int e = address & 15;
            levels[e] = (address >>> 8) & 3;
            if ((address & NO_NUMBER_BIT) != 0) {
                numbers[e] = NONE;
            } else {
                numbers[e] = ((address >>> 12) & 0x7FF) | (((address >>> 10) & 3) << 11);
            }
        }
    }

    /** STATUS and MASK of the interrupts A, B and F, and the LINES that come of them. */
    private static final class Lines {
        static final int FIELD = 1 << 3;
        static final int TIMER_0 = 1 << 5;
        static final int TIMER_1 = 1 << 6;
        static final int TX = 1 << 6;
        static final int RX = 1 << 7;
        private static final int ALWAYS = 1 << 7;
        private static final int DISK_OF_B = 1 << 3;
        private static final int DISK_OF_F = 1;

        int statusA;
        int statusB;
        int statusF;
        int maskA;
        int maskB;
        int maskF;

        void begin() {
            statusA = ALWAYS;
            statusB = TX;
            statusF = ALWAYS;
            maskA = 0;
            maskB = 0;
            maskF = 0;
        }

        boolean isIrq() {
            return ((statusA & maskA) | (statusB & maskB)) != 0;
        }

        boolean isFiq() {
            return (statusF & maskF) != 0;
        }

        void diskIsReady() {
            statusB |= DISK_OF_B;
            statusF |= DISK_OF_F;
        }

        void diskIsSeen() {
            statusB &= ~DISK_OF_B;
            statusF &= ~DISK_OF_F;
        }
    }

    /** The serial port, and the latest bytes that came to OUT. */
    private static final class Serial {
        private static final int KEPT = 4000;
        private static final int ROUND = 4096;
        private static final int SENDING_TICKS = 256;

        private final Lines lines;
        /** Used round and round: a byte stands at its number modulo ROUND. */
        private final byte[] out = new byte[ROUND];
        long sent;
        int last;
        int left;

        Serial(Lines lines) {
            this.lines = lines;
        }

        void begin() {
            last = 0;
            left = 0;
        }

        boolean receive(int b) {
            if ((lines.statusB & Lines.RX) != 0) {
                return false;
            }
            last = b & 255;
            lines.statusB |= Lines.RX;
            return true;
        }

        void isRead() {
            lines.statusB &= ~Lines.RX;
        }

        void send(int b) {
            out[(int) sent & (ROUND - 1)] = (byte) b;
            sent++;
            left = SENDING_TICKS;
            lines.statusB &= ~Lines.TX;
        }

        int keptByte(int i) {
            long oldest = Math.max(0, sent - KEPT);
            if (i < 0 || i >= sent - oldest) {
                return NONE;
            }
            return out[(int) (oldest + i) & (ROUND - 1)] & 255;
        }

        void goOn(int ticks) {
            if (left > ticks) {
                left -= ticks;
            } else {
                left = 0;
                lines.statusB |= Lines.TX;
            }
        }
    }

    /** 16 SECTORS, and the one copy that may be under way. */
    private static final class Disk {
        private static final int SECTORS = 16;
        private static final int COPY_TICKS = 5000;
        private static final int STATE = 2;
        private static final int TO_PAGE = 1;
        private static final int TO_SECTOR = 2;

        private final int[] memory;
        private final Lines lines;
        private final int[] words = new int[SECTORS * PAGE_WORDS];
        private int sector;
        private int page;
        private boolean wrong;
        private int fromOrToSector;
        private int fromOrToPage;
        private boolean toPage;
        int left;
        long copied;

        Disk(int[] memory, Lines lines) {
            this.memory = memory;
            this.lines = lines;
        }

        static boolean isWord(int sector, int i) {
            return sector >= 0 && sector < SECTORS && i >= 0 && i < PAGE_WORDS;
        }

        void begin() {
            sector = 0;
            page = 0;
            wrong = false;
            left = 0;
        }

        int wordOf(int sector, int i) {
            return words[(sector & 15) * PAGE_WORDS + (i & 1023)];
        }

        void change(int sector, int i, int v) {
            words[(sector & 15) * PAGE_WORDS + (i & 1023)] = v;
        }

        int read(int k) {
            switch (k) {
                case 0: return sector;
                case 1: return page;
                case STATE: return left > 0 ? 1 : wrong ? 2 : 0;
                default: return 0;
            }
        }

        void write(int k, int b) {
            if (k == 0) {
                sector = b;
            } else if (k == 1) {
                page = b;
            } else if (k == STATE && left == 0) {
                wrong = (b != TO_PAGE && b != TO_SECTOR) || sector >= SECTORS || page >= SECTORS;
                if (wrong) {
                    lines.diskIsReady();
                } else {
                    beginCopy(b == TO_PAGE);
                }
            }
        }

        void isRead(int k) {
            if (k == STATE) {
                lines.diskIsSeen();
            }
        }

        private void beginCopy(boolean intoPage) {
            toPage = intoPage;
            fromOrToSector = sector;
            fromOrToPage = page;
            left = COPY_TICKS;
        }

        void goOn(int ticks) {
            if (left == 0) {
                return;
            }
            if (left > ticks) {
                left -= ticks;
                return;
            }
            left = 0;
            lines.diskIsReady();
            copy();
        }

        private void copy() {
            int onDisk = (fromOrToSector & 15) * PAGE_WORDS;
            int inMemory = (fromOrToPage & 15) * PAGE_WORDS;
            if (toPage) {
                System.arraycopy(words, onDisk, memory, inMemory, PAGE_WORDS);
            } else {
                System.arraycopy(memory, inMemory, words, onDisk, PAGE_WORDS);
            }
            copied += PAGE_WORDS;
        }
    }

    /** One TIMER, which goes on each fourth TICK. */
    private static final class Timer {
        private static final int FULL = 65536;

        int latch;
        int count;
        int seen;

        void begin() {
            latch = 0;
            count = 0;
            seen = 0;
        }

        void write(int j, int b) {
            switch (j) {
                case 0:
                    latch = (latch & 0xFF00) | b;
                    break;
                case 1:
                    latch = (latch & 0xFF) | (b << 8);
                    break;
                case 2:
                    count = latch;
                    break;
                default:
                    seen = count;
                    break;
            }
        }

        /** Whether the COUNT came to its end by this. */
        boolean countsDown() {
            if (latch == 0) {
                return false;
            }
            count = (count == 0 ? FULL : count) - 1;
            if (count != 0) {
                return false;
            }
            count = latch;
            return true;
        }
    }

    /** The words of the interrupts, of the TIMERS and of the serial port. */
    private static final class Controller {
        private static final int SERIAL = 1;
        private static final int CLEARED_BY_WRITING = Lines.FIELD | Lines.TIMER_0 | Lines.TIMER_1;

        private final Lines lines;
        private final Serial serial;
        final Timer timer0 = new Timer();
        final Timer timer1 = new Timer();
        private int ticksOfFour;

        Controller(Lines lines, Serial serial) {
            this.lines = lines;
            this.serial = serial;
        }

        void begin() {
            timer0.begin();
            timer1.begin();
            ticksOfFour = 0;
        }

        int read(int k) {
            switch (k) {
                case SERIAL: return serial.last;
                case 4: return lines.statusA;
                case 5: return lines.statusA & lines.maskA;
                case 6: return lines.maskA;
                case 8: return lines.statusB;
                case 9: return lines.statusB & lines.maskB;
                case 10: return lines.maskB;
                case 12: return lines.statusF;
                case 13: return lines.statusF & lines.maskF;
                case 14: return lines.maskF;
                case 16: return timer0.seen & 255;
                case 17: return timer0.seen >>> 8;
                case 20: return timer1.seen & 255;
                case 21: return timer1.seen >>> 8;
                default: return 0;
            }
        }

        void isRead(int k) {
            if (k == SERIAL) {
                serial.isRead();
            }
        }

        void write(int k, int b) {
            switch (k) {
                case SERIAL:
                    serial.send(b);
                    break;
                case 5:
                    lines.statusA &= ~(b & CLEARED_BY_WRITING);
                    break;
                case 6:
                    lines.maskA = b;
                    break;
                case 10:
                    lines.maskB = b;
                    break;
                case 14:
                    lines.maskF = b;
                    break;
                case 16: case 17: case 18: case 19:
                    timer0.write(k - 16, b);
                    break;
                case 20: case 21: case 22: case 23:
                    timer1.write(k - 20, b);
                    break;
                default:
                    break;
            }
        }

        void goOn(int ticks) {
            ticksOfFour += ticks;
            for (int fours = ticksOfFour >> 2; fours > 0; fours--) {
                timersCountDown();
            }
            ticksOfFour &= 3;
        }

        private void timersCountDown() {
            if (timer0.countsDown()) {
                lines.statusA |= Lines.TIMER_0;
            }
            if (timer1.countsDown()) {
                lines.statusA |= Lines.TIMER_1;
            }
        }
    }

    /** The PICTURE, and what it is made from. */
    private static final class Screen {
        private static final int FIELD_TICKS = 20000;
        private static final int PLACES = ROWS * ROW_PLACES;
        private static final int COLOURS = 16;
        private static final int BORDER_NUMBER = 16;
        private static final int DEPTH_NUMBER = 56;
        private static final int COLOUR_BITS = 0x1FFF;
        private static final int BYTE_NUMBERS = 0xFFFF;

        private final int[] memory;
        private final Lines lines;
        private final int[] colours = new int[COLOURS];
        private final int[] picture = new int[PLACES];
        int border;
        int depth;
        int start;
        int low;
        int high;
        int video;
        int left;
        long fields;

        Screen(int[] memory, Lines lines) {
            this.memory = memory;
            this.lines = lines;
        }

        void begin() {
            Arrays.fill(colours, 0);
            border = 0;
            depth = 0;
            start = 0;
            low = 0;
            high = 0;
            video = 0;
            left = FIELD_TICKS;
        }

        int colourOf(int number) {
            return colours[number & 15];
        }

        int placeOf(int i) {
            return picture[i & (PLACES - 1)];
        }

        void written(int word) {
            int number = word >>> 26;
            if (number < COLOURS) {
                colours[number] = word & COLOUR_BITS;
            } else if (number == BORDER_NUMBER) {
                border = word & COLOUR_BITS;
            } else if (number == DEPTH_NUMBER) {
                depth = (word >>> 2) & 3;
            }
        }

        void goOn(int ticks) {
            left -= ticks;
            if (left > 0) {
                return;
            }
            left += FIELD_TICKS;
            fields++;
            if (video == 0) {
                Arrays.fill(picture, border);
            } else {
                makeFromMemory();
            }
            lines.statusA |= Lines.FIELD;
        }

        private void makeFromMemory() {
            int size = 1 << depth;
            int at = (start << 4) & BYTE_NUMBERS;
            int bit = 0;
            for (int i = 0; i < PLACES; i++) {
                int v = (byteAt(at) >>> bit) & ((1 << size) - 1);
                picture[i] = colours[v & 15] ^ ((v >>> 4) << 8);
                bit += size;
                if (bit == 8) {
                    bit = 0;
                    at = behind(at);
                }
            }
        }

        private int byteAt(int at) {
            return (memory[(at >>> 2) & (WORDS - 1)] >>> ((at & 3) << 3)) & 255;
        }

        private int behind(int at) {
            int last = ((high << 4) + 15) & BYTE_NUMBERS;
            return (at == last ? low << 4 : at + 1) & BYTE_NUMBERS;
        }
    }

    /** What stands at which ADDRESS. */
    private static final class Bus {
        /** Answers of find() that are no word of MEMORY. */
        static final int REFUSED = -1;
        static final int OUTSIDE = -2;

        private static final int MEMORY_ITSELF = 0x2000000;
        private static final int DEVICES = 0x3000000;
        private static final int COLOURS = 0x3400000;
        private static final int SETTINGS = 0x3600000;
        private static final int ENTRIES = 0x3800000;
        private static final int CONTROLLER_WORDS = 0x80000;
        private static final int DISK_WORDS = 0x4000;

        private final int[] memory;
        private final Entries entries;
        private final Controller controller;
        private final Disk disk;
        private final Screen screen;

        Bus(int[] memory, Entries entries, Controller controller, Disk disk, Screen screen) {
            this.memory = memory;
            this.entries = entries;
            this.controller = controller;
            this.disk = disk;
            this.screen = screen;
        }

        /** The word of MEMORY that an ADDRESS below 2^26 is for a MODE, or OUTSIDE, or REFUSED. */
        int find(int mode, int address, boolean writing) {
            if (address < MEMORY_ITSELF) {
                int e = entries.withNumber(address >>> 12);
                if (e == NONE || (mode == USER_MODE && !entries.letsUser(e, writing))) {
                    return REFUSED;
                }
                return e * PAGE_WORDS + ((address >>> 2) & (PAGE_WORDS - 1));
            }
            if (mode == USER_MODE) {
                return REFUSED;
            }
            return address < DEVICES ? (address >>> 2) & (WORDS - 1) : OUTSIDE;
        }

        int fetch(int found) {
            return isInMemory(found) ? memory[found] : 0;
        }

        int read(int found, int address) {
            if (isInMemory(found)) {
                return memory[found];
            }
            if (address < DEVICES || address >= COLOURS) {
                return 0;
            }
            int w = (address >>> 2) & (DEVICE_WORDS - 1);
            int v = deviceWord(w);
            if (isOfController(w)) {
                controller.isRead(w & 31);
            } else if (isOfDisk(w)) {
                disk.isRead(w & 3);
            }
            return v;
        }

        /** Word w of DEVICES, without what a read does to them. */
        int deviceWord(int w) {
            if (isOfController(w)) {
                return controller.read(w & 31);
            }
            return isOfDisk(w) ? disk.read(w & 3) : 0;
        }

        void write(int found, int address, int v) {
            int w = (address >>> 2) & (DEVICE_WORDS - 1);
            if (isInMemory(found)) {
                memory[found] = v;
            } else if (address >= ENTRIES) {
                entries.tell(address);
            } else if (address >= SETTINGS) {
                tellSetting(address);
            } else if (address >= COLOURS) {
                screen.written(v);
            } else if (isOfController(w)) {
                controller.write(w & 31, v & 255);
            } else if (isOfDisk(w)) {
                disk.write(w & 3, v & 255);
            }
        }

        void writeByte(int found, int address, int v) {
            int b = v & 255;
            if (isInMemory(found)) {
                int shift = (address & 3) << 3;
                memory[found] = (memory[found] & ~(255 << shift)) | (b << shift);
            } else {
                write(found, address, b * 0x1010101);
            }
        }

        private static boolean isInMemory(int found) {
            return found >= 0 && found < WORDS;
        }

        private static boolean isOfController(int w) {
            return (w & ~31) == CONTROLLER_WORDS;
        }

        private static boolean isOfDisk(int w) {
            return (w & ~3) == DISK_WORDS;
        }

        private void tellSetting(int address) {
            int told = (address >>> 2) & 0x7FFF;
            switch ((address >>> 17) & 7) {
                case 0:
                    screen.start = told;
                    break;
                case 1:
                    screen.low = told;
                    break;
                case 2:
                    screen.high = told;
                    break;
                case 7:
                    screen.video = (address >>> 10) & 1;
                    entries.os = (address >>> 12) & 1;
                    break;
                default:
                    break;
            }
        }
    }

    /** Does a STEP at a time. */
    private static final class Processor {
        /** The TRAPS in the order of their VECTORS, which is the one of their counts, too. */
        private static final int UNDEFINED = 0;
        private static final int SWI = 1;
        private static final int PREFETCH = 2;
        private static final int DATA = 3;
        private static final int ADDRESS = 4;
        private static final int IRQ = 5;
        private static final int FIQ = 6;
        private static final int TRAP_TICKS = 4;

        private static final int LSL = 0;
        private static final int LSR = 1;
        private static final int ASR = 2;
        private static final int ROR = 3;

        private static final int BIT_4 = 1 << 4;
        private static final int BITS_4_AND_7 = 0x90;
        private static final int NOT_MULTIPLY_BITS = 0x1C00060;
        /** S of WORK and MULTIPLY, L of a TRANSFER. */
        private static final int BIT_20 = 1 << 20;
        private static final int W = 1 << 21;
        /** B of a TRANSFER of one, S of one of many. */
        private static final int BIT_22 = 1 << 22;
        private static final int U = 1 << 23;
        private static final int P = 1 << 24;
        private static final int BIT_25 = 1 << 25;
        private static final int R15_BIT = 1 << 15;

        private final Registers registers;
        private final Bus bus;
        private final Lines lines;
        private final long[] traps = new long[8];
        private final int[] found = new int[16];
        private int a;
        private int word;
        private int carry;
        private int overflow;
        long notSo;

        Processor(Registers registers, Bus bus, Lines lines) {
            this.registers = registers;
            this.bus = bus;
            this.lines = lines;
        }

        long trapsTaken(int trap) {
            return traps[trap & 7];
        }

        /** The TRAP that is due instead of an instruction, or NONE: then the instruction is fetched. */
        int trapAhead() {
            a = registers.pc();
            if (lines.isFiq() && !registers.has(Registers.F)) {
                return FIQ;
            }
            if (lines.isIrq() && !registers.has(Registers.I)) {
                return IRQ;
            }
            int place = bus.find(registers.mode(), a, false);
            if (place == Bus.REFUSED) {
                return PREFETCH;
            }
            word = bus.fetch(place);
            return NONE;
        }

        /** Takes a TRAP: its TICKS. */
        int take(int trap) {
            int mode = trap == IRQ ? IRQ_MODE : trap == FIQ ? FIQ_MODE : SVC_MODE;
            int ahead = trap == DATA || trap == ADDRESS ? 8 : 4;
            int signsToo = trap == FIQ ? Registers.I | Registers.F : Registers.I;
            registers.become(mode, 14, withSigns(ahead));
            registers.enter(mode, signsToo, 4 * trap + 4);
            traps[trap & 7]++;
            return TRAP_TICKS;
        }

        /** Does the instruction that was fetched: its TICKS. */
        int instruction() {
            registers.goTo(a + 4);
            if (!isSo(word >>> 28)) {
                notSo++;
                return 1;
            }
            switch ((word >>> 25) & 7) {
                case 0:
                    if ((word & BITS_4_AND_7) != BITS_4_AND_7) {
                        return work();
                    }
                    return (word & NOT_MULTIPLY_BITS) == 0 ? multiply() : take(UNDEFINED);
                case 1:
                    return work();
                case 2: case 3:
                    return transferOne();
                case 4:
                    return transferMany();
                case 5:
                    return branch();
                case 6:
                    return take(UNDEFINED);
                default:
                    return take(is(P) ? SWI : UNDEFINED);
            }
        }

        private boolean isSo(int condition) {
            return isEvenSo(condition >>> 1) == ((condition & 1) == 0);
        }

        private boolean isEvenSo(int half) {
            switch (half) {
                case 0: return registers.has(Registers.Z);
                case 1: return registers.has(Registers.C);
                case 2: return registers.has(Registers.N);
                case 3: return registers.has(Registers.V);
                case 4: return registers.has(Registers.C) && !registers.has(Registers.Z);
                case 5: return isNAsV();
                case 6: return isNAsV() && !registers.has(Registers.Z);
                default: return true;
            }
        }

        private boolean isNAsV() {
            return registers.has(Registers.N) == registers.has(Registers.V);
        }

        private boolean is(int bit) {
            return (word & bit) != 0;
        }

        private int part(int lowest) {
            return (word >>> lowest) & 15;
        }

        private int pcAhead(int ahead) {
            return (a + ahead) & PC_BITS;
        }

        private int withSigns(int ahead) {
            return registers.signs() | pcAhead(ahead);
        }

        private int operand(int r, int ahead) {
            return r == 15 ? pcAhead(ahead) : registers.of(registers.mode(), r);
        }

        private void become(int r, int v) {
            registers.become(registers.mode(), r, v);
        }

        private void becomeOrGoTo(int r, int v) {
            if (r == 15) {
                registers.goTo(v);
            } else {
                become(r, v);
            }
        }

        private int multiply() {
            int to = part(16);
            int factor = operand(part(8), 8);
            int result = operand(part(0), 8) * factor;
            if (is(W)) {
                result += operand(part(12), 8);
            }
            if (to != 15) {
                become(to, result);
            }
            if (is(BIT_20)) {
                registers.setResultSigns(result);
            }
            return 1 + Math.max(1, pairsOfBits(factor));
        }

        private static int pairsOfBits(int v) {
            int rest = v;
            int pairs = 0;
            while (rest != 0 && pairs < 16) {
                rest >>>= 2;
                pairs++;
            }
            return pairs;
        }

        private int work() {
            int kind = part(21);
            boolean nowhere = kind >= 8 && kind <= 11;
            if (nowhere && !is(BIT_20)) {
                return take(UNDEFINED);
            }
            boolean byRegister = !is(BIT_25) && is(BIT_4);
            int ahead = byRegister ? 12 : 8;
            int y = is(BIT_25) ? turnedByte() : shiftedRegister(byRegister, ahead);
            overflow = registers.has(Registers.V) ? 1 : 0;
            int result = worked(kind, operand(part(16), ahead), y);
            int modeAhead = registers.mode();
            int d = part(12);
            if (!nowhere) {
                becomeOrGoTo(d, result);
            }
            if (is(BIT_20)) {
                setSignsOfWork(d, result);
            }
            boolean pcWasPut = d == 15 && !nowhere;
            int more = pcWasPut || registers.mode() != modeAhead ? 3 : 0;
            return (byRegister ? 2 : 1) + more;
        }

        private void setSignsOfWork(int d, int result) {
            if (d == 15) {
                registers.setSigns(result);
            } else {
                registers.setResultSigns(result);
                registers.setCarryAndOverflow(carry, overflow);
            }
        }

        private int worked(int kind, int x, int y) {
            switch (kind) {
                case 0: case 8: return x & y;
                case 1: case 9: return x ^ y;
                case 2: case 10: return sum(x, ~y, 1);
                case 3: return sum(y, ~x, 1);
                case 4: case 11: return sum(x, y, 0);
                case 5: return sum(x, y, registers.carry());
                case 6: return sum(x, ~y, registers.carry());
                case 7: return sum(y, ~x, registers.carry());
                case 12: return x | y;
                case 13: return y;
                case 14: return x & ~y;
                default: return ~y;
            }
        }

        /** A difference is a sum, too: x - y is x + ~y + 1, and its carry says that no one was borrowed. */
        private int sum(int x, int y, int one) {
            long whole = (x & 0xFFFFFFFFL) + (y & 0xFFFFFFFFL) + one;
            int result = (int) whole;
            carry = (int) (whole >>> 32);
            overflow = ((x ^ result) & (y ^ result)) >>> 31;
            return result;
        }

        private int turnedByte() {
            int turn = 2 * part(8);
            int y = turned(word & 255, turn);
            carry = turn == 0 ? registers.carry() : y >>> 31;
            return y;
        }

        private int shiftedRegister(boolean byRegister, int ahead) {
            int m = part(0);
            int v = m == 15 ? withSigns(ahead) : operand(m, ahead);
            if (byRegister) {
                return shifted(v, (word >>> 5) & 3, operand(part(8), 8) & 255);
            }
            return shiftedByBits(v);
        }

        /** By bits 7 .. 11, of which 0 means something else for each kind. */
        private int shiftedByBits(int v) {
            int kind = (word >>> 5) & 3;
            int k = (word >>> 7) & 31;
            if (k != 0 || kind == LSL) {
                return shifted(v, kind, k);
            }
            if (kind == ROR) {
                carry = v & 1;
                return (v >>> 1) | (registers.carry() << 31);
            }
            return shifted(v, kind, 32);
        }

        private int shifted(int v, int kind, int k) {
            if (k == 0) {
                carry = registers.carry();
                return v;
            }
            switch (kind) {
                case LSL:
                    carry = k <= 32 ? (v >>> (32 - k)) & 1 : 0;
                    return k < 32 ? v << k : 0;
                case LSR:
                    carry = k <= 32 ? (v >>> (k - 1)) & 1 : 0;
                    return k < 32 ? v >>> k : 0;
                case ASR:
                    carry = (v >> Math.min(k - 1, 31)) & 1;
                    return v >> Math.min(k, 31);
                default:
                    int result = turned(v, k & 31);
                    carry = result >>> 31;
                    return result;
            }
        }

        private static int turned(int v, int k) {
            return k == 0 ? v : (v >>> k) | (v << (32 - k));
        }

        private int transferOne() {
            if (is(BIT_25) && is(BIT_4)) {
                return take(UNDEFINED);
            }
            int n = part(16);
            int base = operand(n, 8);
            int offset = is(BIT_25) ? shiftedByBits(operand(part(0), 8)) : word & 0xFFF;
            int moved = is(U) ? base + offset : base - offset;
            int address = is(P) ? moved : base;
            if (address >>> 26 != 0) {
                return take(ADDRESS);
            }
            int mode = !is(P) && is(W) ? USER_MODE : registers.mode();
            int place = bus.find(mode, address, !is(BIT_20));
            if (place == Bus.REFUSED) {
                return take(DATA);
            }
            boolean back = (!is(P) || is(W)) && n != 15;
            int d = part(12);
            int v = is(BIT_20) ? loaded(place, address) : given(d);
            if (back) {
                become(n, moved);
            }
            if (is(BIT_20)) {
                becomeOrGoTo(d, v);
                return d == 15 ? 7 : 4;
            }
            if (is(BIT_22)) {
                bus.writeByte(place, address, v);
            } else {
                bus.write(place, address, v);
            }
            return 4;
        }

        private int loaded(int place, int address) {
            int v = turned(bus.read(place, address), (address & 3) << 3);
            return is(BIT_22) ? v & 255 : v;
        }

        private int given(int r) {
            return r == 15 ? withSigns(12) : registers.of(registers.mode(), r);
        }

        private int transferMany() {
            int k = Integer.bitCount(word & 0xFFFF);
            if (k == 0) {
                return 1;
            }
            int n = part(16);
            int base = operand(n, 8);
            int beginning = (is(U) ? base : base - 4 * k) + (is(U) == is(P) ? 4 : 0);
            if (beginning >>> 26 != 0) {
                return take(ADDRESS);
            }
            if (!findAll(beginning, k)) {
                return take(DATA);
            }
            if (is(W) && n != 15) {
                become(n, is(U) ? base + 4 * k : base - 4 * k);
            }
            if (is(BIT_20)) {
                loadMany(beginning);
                return 2 + k + (is(R15_BIT) ? 3 : 0);
            }
            storeMany(beginning, base);
            return 2 + k;
        }

        /** Whether all words are ALLOWED; a word moved may change the ENTRIES, so all are found first. */
        private boolean findAll(int beginning, int k) {
            int mode = registers.mode();
            for (int i = 0; i < k; i++) {
                int place = bus.find(mode, (beginning + 4 * i) & PC_BITS, !is(BIT_20));
                if (place == Bus.REFUSED) {
                    return false;
                }
                found[i & 15] = place;
            }
            return true;
        }

        private void loadMany(int beginning) {
            int bank = is(BIT_22) && !is(R15_BIT) ? USER_MODE : registers.mode();
            int address = beginning & PC_BITS;
            int i = 0;
            for (int r = 0; r < 15; r++) {
                if (is(1 << r)) {
                    registers.become(bank, r, bus.read(found[i & 15], address));
                    address = (address + 4) & PC_BITS;
                    i++;
                }
            }
            if (is(R15_BIT)) {
                int v = bus.read(found[i & 15], address);
                registers.goTo(v);
                if (is(BIT_22)) {
                    registers.setSigns(v);
                }
            }
        }

        private void storeMany(int beginning, int base) {
            int mode = registers.mode();
            int bank = is(BIT_22) ? USER_MODE : mode;
            int n = part(16);
            int address = beginning & PC_BITS;
            int i = 0;
            for (int r = 0; r < 16; r++) {
                if (is(1 << r)) {
                    boolean asItWas = i == 0 && r == n && registers.isOneFor(bank, mode, r);
                    int v = r == 15 ? withSigns(12) : asItWas ? base : registers.of(bank, r);
                    bus.write(found[i & 15], address, v);
                    address = (address + 4) & PC_BITS;
                    i++;
                }
            }
        }

        private int branch() {
            if (is(P)) {
                become(14, withSigns(4));
            }
            registers.goTo(a + 8 + ((word << 8) >> 6));
            return 4;
        }
    }
}
