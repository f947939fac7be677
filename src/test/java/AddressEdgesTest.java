/**
 * The boundary cases that the term ADDRESSES names (promises 8, 13, 15, 17), a method for each
 * sentence, which stands above it; no object here has more than 512 calls.
 */
public final class AddressEdgesTest {
    private static final Due DUE = new Due();
    private static final int QUIET = Bench.QUIET;
    private static final int USER = Code.USER | Code.I | Code.F;

    public static void main(String[] args) {
        pages();
        bytesOfMemory();
        bytesElsewhere();
        userHasTheFirstSpan();
        numbers();
        withoutAnEntry();
        leastEntry();
        levels();
        memoryItself();
        memoryMeetsThePages();
        devices();
        devicesMeetMemory();
        fetches();
        readsOfTheLastSpan();
        coloursByNumber();
        colourSpan();
        settingsByNumber();
        settingSpan();
        entrySpan();
        entryBits();
        addressAsItIs();
        pagesFoundAhead();
        reset();
        DUE.end();
    }

    /** "MEMORY has 16 PAGES of 1024 words."; "of the ENTRIES 0 .. 15, one for each PAGE" */
    private static void pages() {
        for (int e = 0; e < 16; e++) {
            Bench x = new Bench();
            x.map(e, 4000, 0);
            x.write(4000 * 4096, 100 + e);
            x.write(4000 * 4096 + 4092, 200 + e);
            DUE.is("the first word of PAGE " + e, 100 + e, x.board.peek(1024 * e));
            DUE.is("the last word of PAGE " + e, 200 + e, x.board.peek(1024 * e + 1023));
            DUE.is("a read of it", 200 + e, x.read(4000 * 4096 + 4092));
        }
    }

    /** "A word is that at the ADDRESS with bits 0, 1 as 0; byte k of it that at k more." */
    private static void bytesOfMemory() {
        for (int base : new int[] {0x200, 0xFFC, 0x200FFFC, 0x2FFF000}) {
            Bench x = new Bench();
            int word = base / 4 % 16384;
            for (int k = 0; k < 4; k++) {
                x.writeByte(base + k, 0x11 * (k + 1) | 0xABC00);
                DUE.is("bytes up to " + k, 0x44332211 & (int) ((1L << 8 * k + 8) - 1), x.board.peek(word));
            }
            for (int k = 0; k < 4; k++) {
                x.poke(word, -1);
                x.writeByte(base + k, 0);
                DUE.is("byte " + k + " becomes 0, the others stay", ~(0xFF << 8 * k), x.board.peek(word));
                x.poke(word, 0);
                x.writeByte(base + k, -1);
                DUE.is("byte " + k + " becomes 255, the others stay", 0xFF << 8 * k, x.board.peek(word));
            }
            for (int k = 0; k < 4; k++) {
                x.write(base + k, 500 + k);
                DUE.is("a word at " + k, 500 + k, x.board.peek(word));
            }
        }
    }

    /** "A byte written elsewhere than in MEMORY is a word of four such bytes." */
    private static void bytesElsewhere() {
        Bench x = new Bench();
        for (int k = 0; k < 4; k++) {
            x.writeByte(0x3400000 + k, 0x05);
            DUE.is("COLOUR 1 by byte " + k, 0x0505, x.board.look(17));
            x.write(0x3400000, 1 << 26);
            x.writeByte(Bench.device(0x80006) + k, 0x80 + k);
            DUE.is("MASK A by byte " + k, 0x80 + k, x.board.device(0x80006));
            x.writeByte(Bench.device(0x4000) + k, 0xF0 + k);
            DUE.is("SECTOR by byte " + k, 0xF0 + k, x.board.device(0x4000));
        }
        x.writeByte(0x35FFFFF, 0x1FF40);
        DUE.is("the BORDER by a byte at the end", 0x4040 & 0x1FFF, x.board.look(6));
        x.write(0x3400000, 56 << 26 | 8);
        x.writeByte(0x3400000, 0xE3);
        DUE.is("DEPTH by a byte: bits 2, 3 of E3E3E3E3", 0, x.board.look(0));
    }

    /** "For USER only the first span can be ALLOWED." */
    private static void userHasTheFirstSpan() {
        Bench x = new Bench();
        x.map(1, 8191, 0);
        x.os(1);
        int[] spans = {0x2000000, 0x2FFFFFC, 0x3000000, 0x33FFFFC, 0x3400000, 0x35FFFFC, 0x3600000, 0x37FFFFC, 0x3800000, 0x3FFFFFC};
        DUE.is("the end of the first span", 1, x.board.allowed(0, 0x1FFFFFF, 0));
        DUE.is("the end of the first span", 1, x.board.allowed(0, 0x1FFFFFF, 1));
        long data = 0;
        long prefetch = 0;
        for (int address : spans) {
            for (int what = 0; what < 2; what++) {
                DUE.is("USER at " + address, 0, x.board.allowed(0, address, what));
                DUE.is("IRQ at " + address, 1, x.board.allowed(2, address, what));
            }
            x.put(0, 2, address);
            x.does(USER, Code.one(Code.P | Code.L, 3, 2, 0));
            x.does(USER, Code.one(Code.P, 3, 2, 0));
            data += 2;
            DUE.is("DATA at " + address, data, x.board.count(5));
            x.put(0, 15, USER | address);
            x.board.step(1);
            prefetch++;
            DUE.is("PREFETCH at " + address, prefetch, x.board.count(4));
        }
        DUE.is("no ENTRY was told", 0, x.board.entry(0, 0));
    }

    /** "with a NUMBER (0 .. 8191, or none)"; "whose NUMBER is the ADDRESS / 4096" */
    private static void numbers() {
        for (int number : new int[] {0, 1, 2047, 2048, 4095, 4096, 6143, 6144, 8190, 8191}) {
            Bench x = new Bench();
            x.write(0x3800010, 0);
            x.map(5, number, 1);
            DUE.is("NUMBER", number, x.board.entry(5, 0));
            DUE.is("its first byte", 1, x.board.allowed(3, number * 4096, 0));
            DUE.is("its last byte", 1, x.board.allowed(3, number * 4096 + 4095, 1));
            DUE.is("ahead of it", number == 0 ? PageBoard.NONE : 0, x.board.allowed(3, number * 4096 - 1, 0));
            // Behind the last one MEMORY itself begins.
            DUE.is("behind it", number == 8191 ? 1 : 0, x.board.allowed(3, number * 4096 + 4096, 0));
        }
    }

    /** "without one it is not ALLOWED": for PRIVILEGED MODES, too. */
    private static void withoutAnEntry() {
        Bench x = new Bench();
        for (int e = 0; e < 16; e++) {
            x.write(0x3800010 | e, 0);
        }
        for (int mode = 0; mode < 4; mode++) {
            for (int address : new int[] {0, 4095, 0x1FFFFFF}) {
                DUE.is("nothing is ALLOWED", 0, x.board.allowed(mode, address, 0) + x.board.allowed(mode, address, 1));
            }
        }
        x.put(0, 15, QUIET);
        x.board.step(1);
        DUE.is("PREFETCH", 1, x.board.count(4));
        x.board.step(1);
        DUE.is("its VECTOR cannot be fetched, either", 2, x.board.count(4));
        DUE.is("R14", QUIET | 16, x.get(14));
        DUE.is("there it stays", QUIET | 12, x.r15());
    }

    /** "that of the least one whose NUMBER is the ADDRESS / 4096 tells the PAGE" */
    private static void leastEntry() {
        Bench x = new Bench();
        for (int e = 15; e >= 1; e--) {
            x.map(e, 70, e % 4);
            x.write(70 * 4096 + 8, 900 + e);
            DUE.is("the least one is " + e, 900 + e, x.board.peek(1024 * e + 2));
        }
        for (int e = 1; e <= 15; e++) {
            DUE.is("PAGE of " + e, 900 + e, x.read(70 * 4096 + 8));
            DUE.is("LEVEL of " + e, e % 4 == 0 ? 1 : 0, x.board.allowed(0, 70 * 4096, 1));
            x.write(0x3800010 | e, 0);
        }
        DUE.is("the last one is gone", 0, x.board.allowed(3, 70 * 4096, 0));
    }

    /** "PRIVILEGED all is ALLOWED then. For USER: LEVEL 0 all; 1 reads (fetches, too), and writes if OS is 1; 2, 3 reads if OS is 1." */
    private static void levels() {
        String[] user = {"rw rw", "r- rw", "-- r-", "-- r-"};
        for (int level = 0; level < 4; level++) {
            for (int os = 0; os < 2; os++) {
                Bench x = new Bench();
                x.map(6, 33, level);
                x.os(os);
                boolean reads = user[level].charAt(3 * os) == 'r';
                boolean writes = user[level].charAt(3 * os + 1) == 'w';
                String name = "LEVEL " + level + " OS " + os;
                DUE.is(name + " reads", reads ? 1 : 0, x.board.allowed(0, 33 * 4096, 0));
                DUE.is(name + " writes", writes ? 1 : 0, x.board.allowed(0, 33 * 4096, 1));
                for (int mode = 1; mode < 4; mode++) {
                    DUE.is(name + " PRIVILEGED", 2, x.board.allowed(mode, 33 * 4096, 0) + x.board.allowed(mode, 33 * 4096, 1));
                }
                x.put(0, 2, 33 * 4096);
                x.does(USER, Code.one(Code.P | Code.L, 3, 2, 0));
                DUE.is(name + " LDR", reads ? 0 : 1, x.board.count(5));
                x.put(0, 15, USER | 33 * 4096);
                x.board.step(1);
                DUE.is(name + " fetch", reads ? 0 : 1, x.board.count(4));
                long before = x.board.count(5);
                x.put(0, 3, 55);
                x.does(USER, Code.one(Code.P, 3, 2, 0));
                DUE.is(name + " STR", writes ? 0 : 1, x.board.count(5) - before);
                DUE.is(name + " what it wrote", writes ? 55 : 0, x.board.peek(6 * 1024));
            }
        }
    }

    /** "0x2000000 .. 0x2FFFFFF: MEMORY itself, from its first byte on, again and again." */
    private static void memoryItself() {
        Bench x = new Bench();
        x.write(0x2000000, 1);
        x.write(0x200FFFC, 2);
        DUE.is("its first word", 1, x.board.peek(0));
        DUE.is("its last word", 2, x.board.peek(16383));
        for (int k = 0; k < 256; k += 51) {
            DUE.is("again: first", 1, x.read(0x2000000 + k * 0x10000));
            DUE.is("again: last", 2, x.read(0x200FFFC + k * 0x10000));
        }
        x.write(0x2010000, 3);
        DUE.is("behind its last word the first", 3, x.board.peek(0));
        x.write(0x2FFFFFF, 4);
        DUE.is("the end of the span", 4, x.board.peek(16383));
        // ENTRIES do not matter here.
        x.write(0x3800010, 0);
        x.write(0x2000400, 5);
        DUE.is("without an ENTRY", 5, x.board.peek(256));
    }

    /** "0 .. 0x1FFFFFF" and "0x2000000 ..": both sides of the limit in one TRANSFER. */
    private static void memoryMeetsThePages() {
        Bench x = new Bench();
        x.map(9, 8191, 0);
        x.put(3, 5, 0x1FFFFFC);
        x.put(3, 6, 66);
        x.put(3, 7, 77);
        x.does(QUIET, Code.many(Code.U, 5, 6, 7));
        DUE.is("the last word of the first span", 66, x.board.peek(9 * 1024 + 1023));
        DUE.is("the first word of MEMORY itself", 77, x.board.peek(0));
    }

    /** "0x3000000 .. 0x33FFFFF: DEVICES, word w by bits 2 .. 21 of the ADDRESS"; "others give 0, and nothing comes of writing there." */
    private static void devices() {
        Bench x = new Bench();
        x.writeDevice(0x4000, 0xAB);
        for (int k = 0; k < 4; k++) {
            DUE.is("bits 0, 1 turn the word", 0xAB << (32 - 8 * k), x.read(0x3010000 + k));
        }
        int[] others = {0, 1, 0x3FFF, 0x4003, 0x4004, 0x7FFFF, 0x80000, 0x80002, 0x80003, 0x80007, 0x8000B, 0x8000F, 0x80018,
            0x8001F, 0x80020, 0x80021, 0x84001, 0xC0001, 0xFFFFF};
        for (int w : others) {
            x.writeDevice(w, -1);
            DUE.is("word " + w, 0, x.read(Bench.device(w)));
            DUE.is("word " + w + " as device() has it", 0, x.board.device(w));
        }
        DUE.is("OUT stays", 0, x.board.count(12));
        DUE.is("the LINES stay", 0, x.board.look(12) + x.board.look(13));
        DUE.is("MEMORY stays", 0, x.board.peek(0) + x.board.peek(16383));
        DUE.is("COLOURS stay", 0, x.board.look(16) + x.board.look(31) + x.board.look(6));
        DUE.is("ENTRY 0 stays", 0, x.board.entry(0, 0));
        DUE.is("SECTOR stays", 0xAB, x.board.device(0x4000));
        DUE.is("the DISK stays", 0, x.board.device(0x4002));
    }

    /** "0x2FFFFFF" and "0x3000000": behind MEMORY DEVICES begin; "0x33FFFFF" and "0x3400000": behind them COLOURS. */
    private static void devicesMeetMemory() {
        Bench x = new Bench();
        x.poke(16383, 4321);
        x.poke(0, 1234);
        DUE.is("the last word of MEMORY itself", 4321, x.read(0x2FFFFFC));
        DUE.is("the first of DEVICES", 0, x.read(0x3000000));
        x.write(0x3000000, 9);
        DUE.is("MEMORY stays", 1234, x.board.peek(0));
        x.write(0x33FFFFF, 7 << 26 | 77);
        DUE.is("the last of DEVICES is no COLOUR", 0, x.board.look(23));
        x.write(0x3400000, 7 << 26 | 77);
        DUE.is("the next one is", 77, x.board.look(23));
        x.write(0x3400000 | 0x3200018 & 0x3FFFFF, 0xFF);
        DUE.is("it is no MASK", 0, x.board.device(0x80006));
    }

    /** "From 0x3000000 on what is fetched is 0, and nothing comes of it." */
    private static void fetches() {
        Bench x = new Bench();
        x.board.key(1);
        x.writeDevice(0x4002, 9);
        int before = x.board.device(0x80008);
        for (int address : new int[] {0x3000000, 0x3200004, 0x3010008, 0x33FFFFC, 0x3400000, 0x3600000, 0x3803000, 0x3FFFFFC}) {
            for (int z : new int[] {0, Code.Z}) {
                long notSo = x.board.count(10);
                x.put(3, 0, 0x123);
                x.put(0, 15, QUIET | z | address);
                DUE.is("TICKS at " + address, 1, x.ticksOfStep());
                DUE.is("0 is so with Z alone", z == 0 ? 1 : 0, x.board.count(10) - notSo);
                DUE.is("R0 & R0", 0x123, x.get(0));
                DUE.is("PC goes on", QUIET | z | address + 4 & 0x3FFFFFF, x.r15());
            }
        }
        DUE.is("nothing came of it", before, x.board.device(0x80008));
        DUE.is("no ENTRY", PageBoard.NONE, x.board.entry(1, 0));
        x.poke(16383, Code.SWI);
        x.put(0, 15, QUIET | 0x2FFFFFC);
        x.board.step(1);
        DUE.is("ahead of it MEMORY is fetched", 1, x.board.count(3));
    }

    /** "0x3400000 .. 0x3FFFFFF gives 0." */
    private static void readsOfTheLastSpan() {
        Bench x = new Bench();
        x.write(0x3400000, 2 << 26 | 99);
        x.board.key(0x55);
        x.writeDevice(0x4002, 0);
        // 0x3410008, 0x3600004 and their like have bits 2 .. 21 of the DISK's state and of SERIAL.
        for (int address : new int[] {0x3400000, 0x3410008, 0x3A00004, 0x3E00004, 0x3C10008, 0x35FFFFC, 0x3600004, 0x36E1400, 0x37FFFFC, 0x3800000, 0x3807002, 0x3FFFFFF}) {
            x.put(3, 0, -1);
            DUE.is("a read at " + address, 0, x.read(address));
        }
        DUE.is("RX, TX and DISK stay", 0xC8, x.board.device(0x80008));
        DUE.is("COLOUR stays", 99, x.board.look(18));
        DUE.is("START stays", 0, x.board.look(3));
        DUE.is("VIDEO and OS stay", 0, x.board.look(1) + x.board.look(2));
        DUE.is("ENTRY 0 stays", 0, x.board.entry(0, 0));
        DUE.is("ENTRY 2 stays", PageBoard.NONE, x.board.entry(2, 0));
        DUE.is("ENTRY 15 stays", PageBoard.NONE, x.board.entry(15, 0));
    }

    /** "0 .. 15: COLOUR of that number becomes bits 0 .. 12; 16: the BORDER's likewise; 56: DEPTH becomes bits 2, 3." */
    private static void coloursByNumber() {
        for (int number = 0; number < 64; number++) {
            Bench x = new Bench();
            x.write(0x3400000, number << 26 | 0x3FFFFFF);
            for (int k = 0; k < 16; k++) {
                DUE.is("COLOUR " + k + " by " + number, k == number ? 0x1FFF : 0, x.board.look(16 + k));
            }
            DUE.is("BORDER by " + number, number == 16 ? 0x1FFF : 0, x.board.look(6));
            DUE.is("DEPTH by " + number, number == 56 ? 3 : 0, x.board.look(0));
            DUE.is("nothing else by " + number, 0, x.board.look(1) + x.board.look(2) + x.board.look(3));
        }
        Bench x = new Bench();
        x.write(0x3400000, 15 << 26 | 0x3FFE000);
        DUE.is("bits from 13 on are none", 0, x.board.look(31));
        x.write(0x3400000, 16 << 26 | 0x3FFE000);
        DUE.is("of the BORDER neither", 0, x.board.look(6));
        for (int depth = 0; depth < 4; depth++) {
            x.write(0x3400000, 56 << 26 | depth << 2 | 0x3FFFFF3);
            DUE.is("DEPTH", depth, x.board.look(0));
        }
    }

    /** "Written to 0x3400000 .. 0x35FFFFF" */
    private static void colourSpan() {
        int[] addresses = {0x33FFFFC, 0x3400000, 0x3400003, 0x35FFFFC, 0x35FFFFF, 0x3600000, 0x3800000, 0x3FFFFEF};
        for (int k = 0; k < addresses.length; k++) {
            Bench x = new Bench();
            x.write(addresses[k], 1 << 26 | 42);
            DUE.is("COLOUR 1 by " + addresses[k], k >= 1 && k <= 4 ? 42 : 0, x.board.look(17));
        }
    }

    /** "bits 17 .. 19: 0 START, 1 LOW, 2 HIGH become its bits 2 .. 16; 7: VIDEO becomes bit 10, OS bit 12; others nothing." */
    private static void settingsByNumber() {
        for (int number = 0; number < 8; number++) {
            for (int value : new int[] {0, 0x1FFFC}) {
                Bench x = new Bench();
                for (int k : new int[] {0, 1, 2, 7}) {
                    x.write(0x3600000 | k << 17 | ~value & 0x1FFFC, 0);
                }
                x.write(0x3600000 | number << 17 | value, -1);
                for (int k = 0; k < 3; k++) {
                    DUE.is("START, LOW, HIGH: " + k + " by " + number, (k == number ? value : ~value & 0x1FFFC) >> 2, x.board.look(3 + k));
                }
                int bit = (number == 7 ? value : ~value) >> 10 & 1;
                DUE.is("VIDEO by " + number, bit, x.board.look(1));
                DUE.is("OS by " + number, bit, x.board.look(2));
            }
        }
        Bench x = new Bench();
        x.write(0x36E0000 | 1 << 10, 0);
        DUE.is("bit 10 is VIDEO alone", 10, 10 * x.board.look(1) + x.board.look(2));
        x.write(0x36E0000 | 1 << 12, 0);
        DUE.is("bit 12 is OS alone", 1, 10 * x.board.look(1) + x.board.look(2));
        x.write(0x36E0000 | 0x1EBFF, 0);
        DUE.is("no other bit is either", 0, 10 * x.board.look(1) + x.board.look(2));
        x.write(0x3600003, 0);
        DUE.is("bits 0, 1 are none of START", 0, x.board.look(3));
        x.write(0x3700000 | 5 << 2, 0);
        DUE.is("bit 20 is none", 5, x.board.look(3));
    }

    /** "By a write to 0x3600000 .. 0x37FFFFF or 0x3800000 .. 0x3FFFFFF the ADDRESS itself tells" */
    private static void settingSpan() {
        Bench x = new Bench();
        x.write(0x3600004, 0);
        DUE.is("START by the first word but one", 1, x.board.look(3));
        x.write(0x3600000, -1);
        DUE.is("START by the first word", 0, x.board.look(3));
        x.write(0x37FFFFF, 0);
        DUE.is("VIDEO and OS by the last byte", 11, 10 * x.board.look(1) + x.board.look(2));
        DUE.is("no ENTRY by it", PageBoard.NONE, x.board.entry(15, 0));
        x.write(0x35FFFFC, 0);
        DUE.is("ahead of the span START stays", 0, x.board.look(3));
        DUE.is("ahead of the span VIDEO stays", 1, x.board.look(1));
        x.write(0x38E0000, 0);
        DUE.is("behind the span VIDEO stays", 1, x.board.look(1));
    }

    /** "0x3800000 .. 0x3FFFFFF": both ends of it. */
    private static void entrySpan() {
        Bench x = new Bench();
        x.map(0, 99, 3);
        x.write(0x3800000, -1);
        DUE.is("ENTRY 0 by the first ADDRESS", 0, x.board.entry(0, 0));
        DUE.is("its LEVEL", 0, x.board.entry(0, 1));
        x.write(0x3FFFFEF, 0);
        DUE.is("ENTRY 15 with all bits but bit 4", 8191, x.board.entry(15, 0));
        DUE.is("its LEVEL", 3, x.board.entry(15, 1));
        x.write(0x3FFFFFF, 0);
        DUE.is("ENTRY 15 by the last ADDRESS: no NUMBER", PageBoard.NONE, x.board.entry(15, 0));
        DUE.is("its LEVEL", 3, x.board.entry(15, 1));
    }

    /** "has LEVEL bits 8, 9, and the NUMBER that has bits 12 .. 22 as its lowest 11 and bits 10, 11 above them; with bit 4 it has no NUMBER." */
    private static void entryBits() {
        Bench x = new Bench();
        for (int bit = 0; bit < 23; bit++) {
            int e = bit < 4 ? 1 << bit : 0;
            x.write(0x3800000 | 1 << bit, 0);
            int number = bit == 10 ? 1 << 11 : bit == 11 ? 1 << 12 : bit >= 12 ? 1 << (bit - 12) : bit == 4 ? PageBoard.NONE : 0;
            DUE.is("NUMBER by bit " + bit, number, x.board.entry(e, 0));
            DUE.is("LEVEL by bit " + bit, bit == 8 ? 1 : bit == 9 ? 2 : 0, x.board.entry(e, 1));
        }
        for (int e = 0; e < 16; e++) {
            x.map(e, 100 + e, e % 4);
        }
        for (int e = 0; e < 16; e++) {
            DUE.is("NUMBER of " + e, 100 + e, x.board.entry(e, 0));
            DUE.is("LEVEL of " + e, e % 4, x.board.entry(e, 1));
        }
    }

    /** "the ADDRESS itself tells, as it is, whatever is written." */
    private static void addressAsItIs() {
        Bench x = new Bench();
        for (int e = 0; e < 16; e++) {
            x.writeByte(0x3805000 | e, e * 17);
            DUE.is("ENTRY " + e + " by a byte", 5, x.board.entry(e, 0));
            x.write(0x3806000 | e, e % 2 == 0 ? -1 : 0);
            DUE.is("ENTRY " + e + " by a word", 6, x.board.entry(e, 0));
        }
    }

    /** "to and from the PAGES that were found ahead of all": an ENTRY told by the first word does not matter to the next ones. */
    private static void pagesFoundAhead() {
        Bench x = new Bench();
        x.map(12, 0, 0);
        x.map(0, 50, 0);
        // At 0x3FFFFFC ENTRY 12 loses its NUMBER; at 0 there was PAGE 12.
        x.put(3, 5, 0x3FFFFFC);
        x.put(3, 6, 66);
        x.put(3, 7, 77);
        x.put(3, 8, 88);
        x.doesAt(0x2000100, QUIET, Code.many(Code.U, 5, 6, 7, 8));
        DUE.is("no DATA", 0, x.board.count(5));
        DUE.is("the ENTRY is told", PageBoard.NONE, x.board.entry(12, 0));
        DUE.is("the PAGE as it was", 77, x.board.peek(12 * 1024));
        DUE.is("for the third word, too", 88, x.board.peek(12 * 1024 + 1));
        x.doesAt(0x2000100, QUIET, Code.many(Code.U, 5, 6, 7, 8));
        DUE.is("the next time it is not ALLOWED", 1, x.board.count(5));
        // OS is told by the last word of the settings, ENTRY 0 by the one behind it.
        Bench y = new Bench();
        y.map(0, 9, 1);
        y.put(3, 5, 0x37FFFFC);
        y.doesAt(0x2000100, QUIET, Code.many(Code.U, 5, 6, 7));
        DUE.is("OS by the last word ahead of the ENTRIES", 1, y.board.look(2));
        DUE.is("ENTRY 0 by the next one", 0, y.board.entry(0, 0) + y.board.entry(0, 1));
    }

    /**
     * "RESET: ENTRY 0 has NUMBER 0, LEVEL 0, the others none and 0; COLOURS, BORDER, DEPTH, START, LOW, HIGH, VIDEO, OS
     * are 0.": of a new object and behind reset().
     */
    private static void reset() {
        Bench x = new Bench();
        isReset("a new object", x.board);
        for (int e = 0; e < 16; e++) {
            x.map(e, 8191 - e, 3);
        }
        for (int number : new int[] {0, 15, 16, 56}) {
            x.write(0x3400000, number << 26 | 0x1FFF);
        }
        for (int k : new int[] {0, 1, 2, 7}) {
            x.write(0x3600000 | k << 17 | 0x1FFFC, 0);
        }
        x.board.reset();
        isReset("behind reset()", x.board);
    }

    private static void isReset(String name, PageBoard b) {
        for (int e = 0; e < 16; e++) {
            DUE.is(name + ": NUMBER " + e, e == 0 ? 0 : PageBoard.NONE, b.entry(e, 0));
            DUE.is(name + ": LEVEL " + e, 0, b.entry(e, 1));
            DUE.is(name + ": COLOUR " + e, 0, b.look(16 + e));
        }
        for (int what = 0; what <= 6; what++) {
            DUE.is(name + ": look " + what, 0, b.look(what));
        }
    }
}
