/** The serial port, the interrupts, the TIMERS, the DISK and the PICTURE (promises 7, 14, 16 to 19). */
public final class DeviceTest {
    private static final Due DUE = new Due();
    private static final int SERIAL = 0x80001;
    private static final int STATUS_A = 0x80004;
    private static final int STATUS_B = 0x80008;
    private static final int STATUS_F = 0x8000C;
    private static final int DISK = 0x4000;

    public static void main(String[] args) {
        sending();
        masksAndRequests();
        bytesAndOtherWords();
        timer(0);
        timer(1);
        timerFromNothing();
        timerWithoutLatch();
        diskToPage();
        diskToSector();
        diskWrong();
        diskSeen();
        diskAsItWas();
        border();
        depths();
        endOfThePicture();
        fieldBit();
        diskAheadOfField();
        readingByMany();
        writingByMany();
        DUE.end();
    }

    private static void sending() {
        Bench x = new Bench();
        x.writeDevice(SERIAL, 0x141);
        DUE.is("the byte", 0x41, x.board.letter(0));
        DUE.is("TX is 0", 0, x.board.device(STATUS_B));
        DUE.is("TICKS of this STEP count", 252, x.board.look(10));
        DUE.is("a write is no key", 0, x.board.device(SERIAL));
        x.wait(251);
        DUE.is("TX is still 0", 0, x.board.device(STATUS_B));
        DUE.is("one TICK is left", 1, x.board.look(10));
        x.wait(1);
        DUE.is("TX is 1", 64, x.board.device(STATUS_B));
        DUE.is("none is left", 0, x.board.look(10));
        x.writeDevice(SERIAL, 66);
        x.wait(200);
        x.writeDevice(SERIAL, 67);
        DUE.is("from then on anew", 252, x.board.look(10));
        DUE.is("both came", 3, x.board.count(12));
        x.waitByFours(252);
        DUE.is("TX is 1 again", 64, x.board.device(STATUS_B));
    }

    private static void masksAndRequests() {
        Bench x = new Bench();
        int[] masks = {0x80006, 0x8000A, 0x8000E};
        int[] always = {0x80, 0x40, 0x80};
        for (int k = 0; k < 3; k++) {
            x.writeDevice(masks[k], 0x1FF);
            DUE.is("MASK", 0xFF, x.board.device(masks[k]));
            DUE.is("REQUEST", always[k], x.board.device(masks[k] - 1));
            DUE.is("IRQ LINE", k == 2 ? 0 : 1, x.board.look(12));
            DUE.is("FIQ LINE", k == 2 ? 1 : 0, x.board.look(13));
            x.writeDevice(masks[k], 0xFF & ~always[k]);
            DUE.is("REQUEST masked", 0, x.board.device(masks[k] - 1));
            DUE.is("no IRQ LINE", 0, x.board.look(12));
            DUE.is("no FIQ LINE", 0, x.board.look(13));
            DUE.is("MASK is read", 0xFF & ~always[k], x.read(Bench.device(masks[k])));
            x.writeDevice(masks[k], 0);
        }
        x.board.key(1);
        x.writeDevice(0x8000A, 0x80);
        DUE.is("RX is a REQUEST", 1, x.board.look(12));
        DUE.is("it is read", 1, x.read(Bench.device(SERIAL)));
        DUE.is("and gone", 0, x.board.look(12));
        x.board.key(2);
        for (int w : new int[] {STATUS_A, STATUS_B, 0x80009, STATUS_F, 0x8000D}) {
            x.writeDevice(w, 0xFF);
            x.writeDevice(w, 0);
        }
        DUE.is("STATUS A is not written", 0x80, x.board.device(STATUS_A));
        DUE.is("STATUS B is not written", 0xC0, x.board.device(STATUS_B));
        DUE.is("STATUS F is not written", 0x80, x.board.device(STATUS_F));
    }

    private static void bytesAndOtherWords() {
        Bench x = new Bench();
        x.board.key(0x77);
        x.put(3, 2, Bench.device(SERIAL) + 1);
        x.does(Bench.QUIET, Code.one(Code.P | Code.L | Code.B, 3, 2, 0));
        DUE.is("byte 1 of a word of 8 bits", 0, x.get(3));
        DUE.is("RX is 0 all the same", 64, x.board.device(STATUS_B));
        DUE.is("a word turned", 0x77000000, x.read(Bench.device(SERIAL) + 1));
        x.writeByte(Bench.device(SERIAL) + 3, 0x5A);
        DUE.is("a byte written anywhere in it", 0x5A, x.board.letter(0));
        for (int w : new int[] {0, 0x80000, 0x80002, 0x80003, 0x80007, 0x8000B, 0x8000F, 0x80018, 0x8001F, 0x80021, 0x4003, 0x4004, 0xFFFFF}) {
            x.writeDevice(w, 0xFF);
            DUE.is("word " + w, 0, x.read(Bench.device(w)));
        }
        DUE.is("nothing came of it", 1, x.board.count(12));
        DUE.is("no IRQ LINE of it", 0, x.board.look(12));
    }

    private static void timer(int t) {
        Bench x = new Bench();
        int w = 0x80010 + 4 * t;
        int bit = t == 0 ? 32 : 64;
        x.writeDevice(w + 1, 1);
        x.writeDevice(w, 3);
        x.writeDevice(w + 2, 99);
        DUE.is("COUNT becomes LATCH", 0x102, x.board.look(7 + t));
        DUE.is("the other one stays", 0, x.board.look(8 - t));
        x.writeDevice(w + 3, 99);
        DUE.is("COUNT goes on", 0x101, x.board.look(7 + t));
        DUE.is("SEEN's lower byte", 2, x.read(Bench.device(w)));
        DUE.is("SEEN's upper byte", 1, x.read(Bench.device(w + 1)));
        DUE.is("nothing", 0, x.read(Bench.device(w + 2)));
        DUE.is("nothing", 0, x.read(Bench.device(w + 3)));
        DUE.is("SEEN is as it was", 2, x.board.device(w));
        x.writeDevice(w + 1, 0);
        x.writeDevice(w + 2, 0);
        DUE.is("3, and 1 less", 2, x.board.look(7 + t));
        x.wait(3);
        DUE.is("three TICKS later", 2, x.board.look(7 + t));
        x.wait(1);
        DUE.is("the fourth", 1, x.board.look(7 + t));
        DUE.is("not yet", 128, x.board.device(STATUS_A));
        x.wait(4);
        DUE.is("LATCH again", 3, x.board.look(7 + t));
        DUE.is("its bit", 128 + bit, x.board.device(STATUS_A));
        x.writeDevice(0x80005, ~bit);
        DUE.is("other bits do not clear it", 128 + bit, x.board.device(STATUS_A));
        x.writeDevice(w, 200);
        x.writeDevice(w + 2, 0);
        x.writeDevice(0x80005, bit);
        DUE.is("it is cleared", 128, x.board.device(STATUS_A));
    }

    private static void timerFromNothing() {
        Bench x = new Bench();
        x.writeDevice(0x80010, 5);
        DUE.is("0 is as 65536", 65535, x.board.look(7));
        x.writeDevice(0x80013, 0);
        DUE.is("SEEN's upper byte", 255, x.board.device(0x80011));
        DUE.is("SEEN's lower byte", 255, x.board.device(0x80010));
        x.writeDevice(0x80012, 0);
        DUE.is("then LATCH", 4, x.board.look(7));
        // 21 TICKS in one STEP are five or six times a fourth one.
        x.writeDevice(0x80010, 2);
        x.put(3, 0, 0x200);
        x.poke(0x23C / 4, Bench.QUIET | 0x100);
        x.does(Bench.QUIET, Code.many(Code.U | Code.L, 0, 0, 1, 2, 3, 4, 5, 6, 7, 8, 9, 10, 11, 12, 13, 14, 15));
        DUE.is("five more: 3, 2, 1, LATCH, 1, LATCH", 2, x.board.look(7));
    }

    private static void timerWithoutLatch() {
        Bench x = new Bench();
        x.writeDevice(0x80010, 5);
        x.writeDevice(0x80012, 0);
        x.writeDevice(0x80010, 0);
        DUE.is("one less each STEP until then", 4, x.board.look(7));
        x.waitByFours(400);
        DUE.is("it stays", 4, x.board.look(7));
        DUE.is("and has no bit", 128, x.board.device(STATUS_A));
        x.writeDevice(0x80012, 0);
        DUE.is("COUNT is 0", 0, x.board.look(7));
    }

    private static void diskToPage() {
        Bench x = new Bench();
        x.board.store(15, 0, 150);
        x.board.store(15, 1023, 151);
        x.board.store(14, 1023, 141);
        x.writeDevice(DISK, 15);
        x.writeDevice(DISK + 1, 2);
        DUE.is("SECTOR is read", 15, x.read(Bench.device(DISK)));
        DUE.is("PAGE is read", 2, x.read(Bench.device(DISK + 1)));
        x.writeDevice(DISK + 2, 1);
        DUE.is("BUSY", 1, x.board.device(DISK + 2));
        DUE.is("TICKS up to then", 4996, x.board.look(9));
        x.waitByFours(4992);
        DUE.is("still BUSY", 4, x.board.look(9));
        x.wait(3);
        DUE.is("nothing is copied yet", 0, x.board.peek(2048));
        DUE.is("BUSY up to the last TICK", 1, x.board.device(DISK + 2));
        DUE.is("DISK is 0", 64, x.board.device(STATUS_B));
        // What the SECTOR has only now is copied.
        x.board.store(15, 1, 152);
        x.wait(1);
        DUE.is("copied", 150, x.board.peek(2048));
        DUE.is("copied", 152, x.board.peek(2049));
        DUE.is("copied", 151, x.board.peek(3071));
        DUE.is("not beyond", 0, x.board.peek(3072));
        DUE.is("not ahead", 0, x.board.peek(2047));
        DUE.is("ready", 0, x.board.device(DISK + 2));
        DUE.is("DISK of B", 64 + 8, x.board.device(STATUS_B));
        DUE.is("DISK of F", 128 + 1, x.board.device(STATUS_F));
        DUE.is("words copied", 1024, x.board.count(11));
        DUE.is("none is left", 0, x.board.look(9));
    }

    private static void diskToSector() {
        Bench x = new Bench();
        x.poke(15 * 1024, 10);
        x.poke(16383, 11);
        x.board.store(1, 5, 55);
        x.writeDevice(DISK, 1);
        x.writeDevice(DISK + 1, 15);
        x.writeDevice(DISK + 2, 2);
        x.waitByFours(5000);
        DUE.is("copied", 10, x.board.stored(1, 0));
        DUE.is("copied", 11, x.board.stored(1, 1023));
        DUE.is("copied", 0, x.board.stored(1, 5));
        DUE.is("MEMORY stays", 10, x.board.peek(15 * 1024));
        DUE.is("not elsewhere", 0, x.board.stored(0, 1023));
        DUE.is("words copied", 1024, x.board.count(11));
    }

    private static void wrong(int sector, int page, int command) {
        Bench x = new Bench();
        x.writeDevice(DISK, sector);
        x.writeDevice(DISK + 1, page);
        x.writeDevice(DISK + 2, command);
        String name = "WRONG " + sector + " " + page + " " + command;
        DUE.is(name, 2, x.board.device(DISK + 2));
        DUE.is(name + ": ready at once", 72, x.board.device(STATUS_B));
        DUE.is(name + ": not BUSY", 0, x.board.look(9));
        DUE.is(name + ": read", 2, x.read(Bench.device(DISK + 2)));
        DUE.is(name + ": still WRONG", 2, x.board.device(DISK + 2));
        DUE.is(name + ": DISK is 0", 64, x.board.device(STATUS_B));
        x.writeDevice(DISK, 1);
        x.writeDevice(DISK + 1, 1);
        x.writeDevice(DISK + 2, 2);
        DUE.is(name + ": BUSY then", 1, x.board.device(DISK + 2));
        x.waitByFours(5000);
        DUE.is(name + ": no longer WRONG", 0, x.board.device(DISK + 2));
    }

    private static void diskWrong() {
        wrong(16, 0, 1);
        wrong(0, 16, 1);
        wrong(255, 3, 2);
        wrong(3, 255, 2);
        wrong(0, 0, 0);
        wrong(0, 0, 3);
        wrong(0, 0, 255);
    }

    private static void diskSeen() {
        Bench x = new Bench();
        x.writeDevice(DISK + 2, 3);
        DUE.is("reading others", 0, x.read(Bench.device(DISK + 1)));
        DUE.is("DISK stays 1", 72, x.board.device(STATUS_B));
        x.writeDevice(DISK + 2, 2);
        DUE.is("BUSY, DISK stays 1", 72, x.board.device(STATUS_B));
        DUE.is("read while BUSY", 1, x.read(Bench.device(DISK + 2)));
        DUE.is("DISK is 0 then", 64, x.board.device(STATUS_B));
        DUE.is("DISK of F, too", 128, x.board.device(STATUS_F));
        x.writeDevice(0x8000E, 1);
        DUE.is("no FIQ LINE", 0, x.board.look(13));
        x.waitByFours(5000);
        DUE.is("FIQ LINE", 1, x.board.look(13));
    }

    private static void diskAsItWas() {
        Bench x = new Bench();
        x.board.store(3, 0, 33);
        x.board.store(4, 0, 44);
        x.writeDevice(DISK, 3);
        x.writeDevice(DISK + 1, 5);
        x.writeDevice(DISK + 2, 1);
        int left = x.board.look(9);
        x.writeDevice(DISK, 4);
        x.writeDevice(DISK + 1, 6);
        x.writeDevice(DISK + 2, 2);
        x.writeDevice(DISK + 2, 9);
        DUE.is("BUSY: nothing", left - 16, x.board.look(9));
        DUE.is("SECTOR can be written", 4, x.board.device(DISK));
        x.waitByFours(5000);
        DUE.is("as SECTOR and PAGE were", 33, x.board.peek(5 * 1024));
        DUE.is("not as they are", 0, x.board.peek(6 * 1024));
        DUE.is("one copy", 1024, x.board.count(11));
        DUE.is("it was not WRONG", 0, x.board.device(DISK + 2));
    }

    private static void border() {
        Bench x = new Bench();
        x.write(0x3400000, 16 << 26 | 0x1234);
        DUE.is("no PICTURE yet", 0, x.board.place(0, 0));
        x.waitByFours(19992);
        DUE.is("up to the FIELD's end", 4, x.board.look(11));
        x.wait(3);
        DUE.is("not yet", 0, x.board.place(0, 0));
        x.wait(1);
        for (int k = 0; k < 2048; k++) {
            DUE.is("BORDER", 0x1234, x.board.place(k & 63, k >> 6));
        }
        DUE.is("a FIELD", 1, x.board.count(9));
        DUE.is("the next one", 20000, x.board.look(11));
        x.write(0x3400000, 16 << 26 | 0x4321 & 0x1FFF);
        DUE.is("the latest PICTURE", 0x1234, x.board.place(0, 0));
    }

    /** COLOUR k is 100 + k, byte k of the words from 0x8000 on is k * 29 + 7. */
    private static Bench withPicture(int depth) {
        Bench x = new Bench();
        for (int k = 0; k < 16; k++) {
            x.write(0x3400000, k << 26 | 100 + k);
        }
        for (int i = 0; i < 1024; i++) {
            x.poke(0x2000 + i, byteOf(4 * i) | byteOf(4 * i + 1) << 8 | byteOf(4 * i + 2) << 16 | byteOf(4 * i + 3) << 24);
        }
        x.write(0x3400000, 56 << 26 | depth << 2);
        x.write(0x36E0400, 0);
        return x;
    }

    private static int byteOf(int k) {
        return k * 29 + 7 & 255;
    }

    private static void depths() {
        for (int depth = 0; depth < 4; depth++) {
            Bench x = withPicture(depth);
            x.write(0x3600000 | 0x800 << 2, 0);
            x.write(0x3640000 | 0xFFF << 2, 0);
            x.waitByFours(20000);
            int size = 1 << depth;
            for (int k = 0; k < 2048; k++) {
                int bit = k * size;
                int v = byteOf(bit / 8) >> bit % 8 & (1 << size) - 1;
                DUE.is("DEPTH " + depth + " place " + k, 100 + v % 16 ^ v / 16 * 256, x.board.place(k & 63, k >> 6));
            }
        }
    }

    private static void endOfThePicture() {
        Bench x = withPicture(3);
        // From byte 0x8010 to 0x802F, then from 0x8100 to 0xFFFF and 0 on, all modulo 65536.
        x.write(0x3600000 | 0x1801 << 2, 0);
        x.write(0x3620000 | 0x2810 << 2, 0);
        x.write(0x3640000 | 0x7802 << 2, 0);
        x.waitByFours(20000);
        for (int k = 0; k < 2048; k++) {
            int v = byteOf(k < 0x20 ? 0x10 + k : 0x100 + k - 0x20);
            DUE.is("place " + k, 100 + v % 16 ^ v / 16 * 256, x.board.place(k & 63, k >> 6));
        }
        x.poke(0, 0x01020304);
        x.poke(16383, 0x06070809);
        x.write(0x3600000 | 0xFFF << 2, 0);
        x.write(0x3640000, 0);
        x.waitByFours(20000);
        DUE.is("byte 65535", 106, x.board.place(15, 0));
        DUE.is("byte 0 is behind it", 104, x.board.place(16, 0));
        int v = byteOf(0x100);
        DUE.is("behind byte 15 LOW comes", 100 + v % 16 ^ v / 16 * 256, x.board.place(32, 0));
    }

    private static void fieldBit() {
        Bench x = new Bench();
        x.writeDevice(0x80006, 8);
        DUE.is("no IRQ LINE", 0, x.board.look(12));
        x.waitByFours(20000);
        DUE.is("FIELD", 128 + 8, x.board.device(STATUS_A));
        DUE.is("REQUEST", 8, x.board.device(0x80005));
        DUE.is("IRQ LINE", 1, x.board.look(12));
        x.writeDevice(0x80005, 0xF7);
        DUE.is("other bits do not clear it", 136, x.board.device(STATUS_A));
        x.writeDevice(0x80005, 0xFF);
        DUE.is("it is cleared, bit 7 stays", 128, x.board.device(STATUS_A));
    }

    private static void diskAheadOfField() {
        for (int ahead : new int[] {4, 0, -4}) {
            Bench x = new Bench();
            x.write(0x3400000, 1 << 26 | 111);
            x.write(0x36E0400, 0);
            x.write(0x365FFFC, 0);
            x.write(0x3600000 | 0x400 << 2, 0);
            for (int i = 0; i < 64; i++) {
                x.board.store(0, i, -1);
            }
            x.writeDevice(DISK + 1, 4);
            // The TICKS left when the command is given: then the DISK is ready so far ahead of the FIELD.
            x.waitByFours(15000 - 20 - ahead);
            x.writeDevice(DISK + 2, 1);
            DUE.is("DISK ahead by", ahead, x.board.look(11) - x.board.look(9));
            x.waitByFours(5000 + 20);
            DUE.is("DISK goes ahead of FIELD by " + ahead, ahead >= 0 ? 111 : 0, x.board.place(0, 0));
            DUE.is("both are done", 1025, x.board.count(9) + x.board.count(11));
        }
    }

    private static void readingByMany() {
        Bench x = new Bench();
        x.board.key(42);
        x.writeDevice(0x8000A, 0xFF);
        x.put(3, 0, Bench.device(0x80000));
        x.does(Bench.QUIET, Code.many(Code.U | Code.L, 0, 1, 2, 3, 4, 5, 6, 7, 8, 9, 10, 11));
        DUE.is("word 0", 0, x.get(1));
        DUE.is("SERIAL", 42, x.get(2));
        DUE.is("STATUS A", 128, x.get(5));
        DUE.is("STATUS B has no RX any more", 64, x.get(9));
        DUE.is("REQUEST B", 64, x.get(10));
        DUE.is("MASK B", 255, x.get(11));
    }

    private static void writingByMany() {
        Bench x = new Bench();
        x.put(3, 0, Bench.device(DISK));
        x.put(3, 1, 7);
        x.put(3, 2, 9);
        x.put(3, 3, 2);
        x.does(Bench.QUIET, Code.many(Code.U, 0, 1, 2, 3));
        DUE.is("SECTOR", 7, x.board.device(DISK));
        DUE.is("PAGE", 9, x.board.device(DISK + 1));
        DUE.is("BUSY, 5 TICKS of this STEP are gone", 4995, x.board.look(9));
    }
}
