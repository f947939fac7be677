/**
 * The boundary cases that the term DEVICES names (promises 7, 14, 16 to 19), a method for each
 * sentence, which stands above it; no object here has more than 512 calls.
 */
public final class DeviceEdgesTest {
    private static final Due DUE = new Due();
    private static final int QUIET = Bench.QUIET;
    private static final int SERIAL = 0x80001;
    private static final int STATUS_A = 0x80004;
    private static final int REQUEST_A = 0x80005;
    private static final int MASK_A = 0x80006;
    private static final int STATUS_B = 0x80008;
    private static final int MASK_B = 0x8000A;
    private static final int STATUS_F = 0x8000C;
    private static final int MASK_F = 0x8000E;
    private static final int SECTOR = 0x4000;
    private static final int PAGE = 0x4001;
    private static final int COMMAND = 0x4002;

    public static void main(String[] args) {
        eightBits();
        readOfSerial();
        sending();
        sendingAnew();
        requestAIsWritten();
        statusIsNotWritten();
        alwaysOne();
        lines();
        latchBytes();
        timerWords();
        eachFourthTick();
        timerWithoutLatch();
        timerFromZero();
        timerAtItsEnd();
        timersAtOnce();
        diskSectorsAndPages();
        diskWrong();
        diskBusy();
        diskReady();
        diskAsWritten();
        diskRead();
        diskToItsOwn();
        fieldTicks();
        fieldFromReset();
        fieldWithoutVideo();
        fieldDepths();
        fieldWrapsAtMemorysEnd();
        fieldFromHighToLow();
        fieldBehindHigh();
        fieldValues();
        orderOfOneTick();
        reset();
        resetEndsWhatIsUnderWay();
        DUE.end();
    }

    /** "a read gives 8 bits, a write takes the lowest 8" */
    private static void eightBits() {
        Bench x = new Bench();
        for (int w : new int[] {MASK_A, MASK_B, MASK_F, SECTOR, PAGE}) {
            x.writeDevice(w, 0xFFFFFF00);
            DUE.is("none of the lowest 8", 0, x.read(Bench.device(w)));
            x.writeDevice(w, 0x100 | 0x27);
            DUE.is("the lowest 8", 0x27, x.read(Bench.device(w)));
            x.writeDevice(w, -1);
            DUE.is("all of them", 0xFF, x.read(Bench.device(w)));
        }
    }

    // ---- the serial port

    /** "a read gives the byte that came last, and RX is 0" */
    private static void readOfSerial() {
        Bench x = new Bench();
        DUE.is("none came", 0, x.read(Bench.device(SERIAL)));
        x.board.key(0xFF);
        x.writeDevice(SERIAL, 0x11);
        DUE.is("a write leaves it, and RX", 0x80, x.board.device(STATUS_B));
        DUE.is("the byte", 0xFF, x.read(Bench.device(SERIAL)));
        DUE.is("RX is 0", 0, x.board.device(STATUS_B) & 0x80);
        DUE.is("again", 0xFF, x.read(Bench.device(SERIAL)));
        x.board.key(1);
        x.read(Bench.device(0x80000));
        x.read(Bench.device(0x80002));
        DUE.is("reads beside it leave RX", 0x80, x.board.device(STATUS_B) & 0x80);
    }

    /** "a write: that byte comes to OUT, TX is 0 for 256 TICKS" */
    private static void sending() {
        Bench x = new Bench();
        x.writeDevice(SERIAL, 0x1FE);
        DUE.is("the byte", 0xFE, x.board.letter(0));
        DUE.is("TX is 0", 0, x.board.device(STATUS_B));
        x.wait(256 - 4 - 1);
        DUE.is("TX is 0 behind 255 TICKS", 0, x.board.device(STATUS_B));
        x.wait(1);
        DUE.is("TX is 1 behind 256 TICKS", 0x40, x.board.device(STATUS_B));
        // A STEP that goes beyond the last TICK.
        x.writeDevice(SERIAL, 1);
        x.wait(250);
        DUE.is("two are left", 2, x.board.look(10));
        x.writeDevice(0, 0);
        DUE.is("4 TICKS are enough", 0, x.board.look(10));
        DUE.is("TX is 1", 0x40, x.board.device(STATUS_B));
    }

    /** "(from then on anew)" */
    private static void sendingAnew() {
        Bench x = new Bench();
        x.writeDevice(SERIAL, 1);
        x.wait(251);
        x.writeDevice(SERIAL, 2);
        DUE.is("256 from then on", 252, x.board.look(10));
        DUE.is("both came to OUT", 2, x.board.count(12));
        x.wait(251);
        DUE.is("TX is still 0", 0, x.board.device(STATUS_B));
        x.wait(1);
        DUE.is("TX is 1", 0x40, x.board.device(STATUS_B));
    }

    // ---- interrupts

    /** Bits 3, 5, 6 of STATUS A are 1: a FIELD and both TIMERS. */
    private static Bench withAllOfA() {
        Bench x = new Bench();
        x.writeDevice(0x80010, 1);
        x.writeDevice(0x80012, 0);
        x.writeDevice(0x80014, 1);
        x.writeDevice(0x80016, 0);
        x.wait(20000);
        x.writeDevice(0x80010, 0);
        x.writeDevice(0x80014, 0);
        return x;
    }

    /** "written: each bit of 3, 5, 6 that is 1 becomes 0 in STATUS A." */
    private static void requestAIsWritten() {
        Bench x = withAllOfA();
        DUE.is("all of them", 0x80 | 0x68, x.board.device(STATUS_A));
        x.writeDevice(REQUEST_A, 0x97);
        DUE.is("other bits", 0x80 | 0x68, x.board.device(STATUS_A));
        x.writeDevice(REQUEST_A, 0);
        DUE.is("none", 0x80 | 0x68, x.board.device(STATUS_A));
        x.writeDevice(REQUEST_A, 0x20);
        DUE.is("bit 5", 0x80 | 0x48, x.board.device(STATUS_A));
        x.writeDevice(REQUEST_A, 0x40);
        DUE.is("bit 6", 0x80 | 0x08, x.board.device(STATUS_A));
        x.writeDevice(REQUEST_A, 0x08);
        DUE.is("bit 3", 0x80, x.board.device(STATUS_A));
        // It is STATUS that is cleared, whatever MASK is, and MASK stays.
        Bench y = withAllOfA();
        y.writeDevice(MASK_A, 0x20);
        DUE.is("REQUEST A", 0x20, y.board.device(REQUEST_A));
        y.writeDevice(REQUEST_A, 0xFF);
        DUE.is("all at once", 0x80, y.board.device(STATUS_A));
        DUE.is("MASK A stays", 0x20, y.board.device(MASK_A));
    }

    /** "(9, 13 are not written, 4, 8, 12 neither)" */
    private static void statusIsNotWritten() {
        Bench x = withAllOfA();
        x.board.key(1);
        x.writeDevice(COMMAND, 0);
        for (int v : new int[] {0, 0xFF}) {
            for (int k : new int[] {4, 8, 9, 12, 13}) {
                x.writeDevice(0x80000 + k, v);
            }
            DUE.is("STATUS A", 0xE8, x.board.device(STATUS_A));
            DUE.is("STATUS B", 0xC8, x.board.device(STATUS_B));
            DUE.is("STATUS F", 0x81, x.board.device(STATUS_F));
            DUE.is("MASKS", 0, x.board.device(MASK_A) + x.board.device(MASK_B) + x.board.device(MASK_F));
        }
    }

    /** "7 always 1": of A and of F; bits that nothing is told of are 0. */
    private static void alwaysOne() {
        Bench x = new Bench();
        x.writeDevice(REQUEST_A, 0x80);
        DUE.is("STATUS A", 0x80, x.board.device(STATUS_A));
        DUE.is("STATUS F", 0x80, x.board.device(STATUS_F));
        DUE.is("STATUS B has no such bit", 0x40, x.board.device(STATUS_B));
        x.board.reset();
        DUE.is("STATUS A behind RESET", 0x80, x.board.device(STATUS_A));
        DUE.is("STATUS F behind RESET", 0x80, x.board.device(STATUS_F));
    }

    /** "The IRQ LINE is 1 if REQUEST A or REQUEST B is not 0, the FIQ LINE if REQUEST F is not 0." */
    private static void lines() {
        Bench x = withAllOfA();
        x.board.key(1);
        x.writeDevice(COMMAND, 0);
        int[] masks = {MASK_A, MASK_B, MASK_F};
        int[] status = {0xE8, 0xC8, 0x81};
        for (int k = 0; k < 3; k++) {
            for (int bit = 0; bit < 8; bit++) {
                x.writeDevice(masks[k], 1 << bit);
                int on = status[k] >> bit & 1;
                DUE.is("IRQ LINE by MASK " + k + " bit " + bit, k < 2 ? on : 0, x.board.look(12));
                DUE.is("FIQ LINE by MASK " + k + " bit " + bit, k < 2 ? 0 : on, x.board.look(13));
                DUE.is("REQUEST " + k + " bit " + bit, on << bit, x.board.device(masks[k] - 1));
            }
            x.writeDevice(masks[k], 0);
        }
        x.writeDevice(MASK_A, 0x17);
        x.writeDevice(MASK_B, 0x37);
        x.writeDevice(MASK_F, 0x7E);
        DUE.is("all the other bits", 0, x.board.look(12) + x.board.look(13));
        x.writeDevice(MASK_A, 0x80);
        x.writeDevice(MASK_B, 0x80);
        DUE.is("both", 1, x.board.look(12));
    }

    // ---- timers

    /** "written: j 0, 1 LATCH's lower, upper byte; 2: its COUNT becomes LATCH" */
    private static void latchBytes() {
        for (int t = 0; t < 2; t++) {
            Bench x = new Bench();
            int w = 0x80010 + 4 * t;
            x.writeDevice(w + 1, 0x1FF);
            x.writeDevice(w + 2, 0);
            // The fourth TICK of the STEP that writes has gone by already.
            DUE.is("upper byte alone", 0xFF00 - 1, x.board.look(7 + t));
            x.writeDevice(w, 0x1FF);
            x.writeDevice(w + 2, 0);
            DUE.is("both: the largest", 0xFFFF - 1, x.board.look(7 + t));
            x.writeDevice(w + 1, 0x100);
            x.writeDevice(w + 2, 0);
            DUE.is("lower byte alone", 0xFF - 1, x.board.look(7 + t));
            x.writeDevice(w, 0x100);
            x.writeDevice(w + 2, 0xFF);
            DUE.is("LATCH 0: COUNT is 0", 0, x.board.look(7 + t));
            DUE.is("the other TIMER", 0, x.board.look(8 - t));
        }
    }

    /** "3: SEEN becomes COUNT. Read: 0, 1: SEEN's; 2, 3: 0." */
    private static void timerWords() {
        for (int t = 0; t < 2; t++) {
            Bench x = new Bench();
            int w = 0x80010 + 4 * t;
            x.writeDevice(w, 0xFF);
            x.writeDevice(w + 1, 0xFF);
            x.writeDevice(w + 2, 0);
            DUE.is("SEEN is 0 until then", 0, x.read(Bench.device(w)) + x.read(Bench.device(w + 1)));
            // Two reads and the write of COUNT itself: three less.
            x.writeDevice(w + 3, 0);
            DUE.is("SEEN's lower byte", 0xFC, x.read(Bench.device(w)));
            DUE.is("SEEN's upper byte", 0xFF, x.read(Bench.device(w + 1)));
            DUE.is("2", 0, x.read(Bench.device(w + 2)));
            DUE.is("3", 0, x.read(Bench.device(w + 3)));
            DUE.is("SEEN stays", 0xFC, x.read(Bench.device(w)));
            x.writeDevice(w + 2, 0);
            x.wait(4 * 0x54);
            x.writeDevice(w + 3, 0);
            DUE.is("SEEN is 0xFFAA", 0xAA, x.read(Bench.device(w)));
            x.wait(4 * 0x53);
            x.writeDevice(w + 3, 0);
            DUE.is("SEEN is 0xFF55", 0x55, x.read(Bench.device(w)));
            DUE.is("SEEN of the other TIMER", 0, x.board.device(0x80014 - 4 * t) + x.board.device(0x80015 - 4 * t));
        }
    }

    /** "Each fourth TICK (from RESET on) a TIMER whose LATCH is not 0: COUNT is 1 less" */
    private static void eachFourthTick() {
        for (int ahead = 0; ahead < 4; ahead++) {
            Bench x = new Bench();
            x.wait(ahead);
            x.board.reset();
            x.wait(ahead);
            // This STEP's 4 TICKS have one fourth one among them.
            x.writeDevice(0x80010, 9);
            DUE.is("one", 65535, x.board.look(7));
            x.wait(3 - ahead);
            DUE.is("up to the next fourth", 65535, x.board.look(7));
            x.wait(1);
            DUE.is("the next fourth", 65534, x.board.look(7));
            x.wait(3);
            DUE.is("three more", 65534, x.board.look(7));
            x.wait(1);
            DUE.is("four more", 65533, x.board.look(7));
        }
        // In a STEP of 21 TICKS there are five or six of them.
        for (int ahead = 0; ahead < 4; ahead++) {
            Bench x = new Bench();
            x.writeDevice(0x80010, 100);
            x.writeDevice(0x80012, 0);
            x.wait(ahead);
            x.put(3, 0, 0x200);
            x.does(QUIET, Code.many(Code.U | Code.L, 0, 0, 1, 2, 3, 4, 5, 6, 7, 8, 9, 10, 11, 12, 13, 14, 15));
            DUE.is("21 TICKS behind " + ahead, ahead == 3 ? 93 : 94, x.board.look(7));
        }
    }

    /** "a TIMER whose LATCH is not 0": with LATCH 0 its COUNT stays. */
    private static void timerWithoutLatch() {
        for (int t = 0; t < 2; t++) {
            Bench x = new Bench();
            int w = 0x80010 + 4 * t;
            x.wait(4000);
            DUE.is("COUNT stays 0", 0, x.board.look(7 + t));
            x.writeDevice(w, 2);
            x.writeDevice(w + 2, 0);
            DUE.is("COUNT 1", 1, x.board.look(7 + t));
            // The write's own STEP is one of LATCH 0 already.
            x.writeDevice(w, 0);
            DUE.is("LATCH 0: COUNT stays 1", 1, x.board.look(7 + t));
            x.wait(4000);
            DUE.is("it still does", 1, x.board.look(7 + t));
            DUE.is("no bit", 0x80, x.board.device(STATUS_A));
            x.writeDevice(w + 1, 1);
            DUE.is("LATCH 256: COUNT goes on to its end", 256, x.board.look(7 + t));
            DUE.is("its bit", 0x80 | 0x20 << t, x.board.device(STATUS_A));
        }
    }

    /** "(0: as if it were 65536)" */
    private static void timerFromZero() {
        for (int t = 0; t < 2; t++) {
            Bench x = new Bench();
            x.writeDevice(0x80010 + 4 * t, 1);
            DUE.is("65535", 65535, x.board.look(7 + t));
            DUE.is("no bit", 0x80, x.board.device(STATUS_A));
            // 65534 times four TICKS down to 1, and once more to its end.
            for (int k = 0; k < 13; k++) {
                x.wait(20000);
            }
            x.wait(65534 * 4 - 13 * 20000);
            DUE.is("1", 1, x.board.look(7 + t));
            DUE.is("still no bit", 0, x.board.device(STATUS_A) & 0x60);
            x.wait(4);
            DUE.is("LATCH", 1, x.board.look(7 + t));
            DUE.is("its bit", 0x20 << t, x.board.device(STATUS_A) & 0x60);
        }
    }

    /** "if it is 0 then, it becomes LATCH, and its bit in STATUS A is 1." */
    private static void timerAtItsEnd() {
        for (int t = 0; t < 2; t++) {
            Bench x = new Bench();
            int w = 0x80010 + 4 * t;
            int bit = 0x20 << t;
            x.writeDevice(w, 1);
            x.writeDevice(w + 2, 0);
            DUE.is("LATCH 1: its end each fourth TICK", 1, x.board.look(7 + t));
            DUE.is("its bit", 0x80 | bit, x.board.device(STATUS_A));
            // The STEP that clears the bit has a fourth TICK, too.
            x.writeDevice(REQUEST_A, bit);
            DUE.is("its bit again", 0x80 | bit, x.board.device(STATUS_A));
            x.writeDevice(w, 3);
            DUE.is("the old COUNT ends, LATCH is the new one", 3, x.board.look(7 + t));
            x.writeDevice(REQUEST_A, bit);
            DUE.is("2", 2, x.board.look(7 + t));
            DUE.is("cleared", 0x80, x.board.device(STATUS_A));
            x.wait(7);
            DUE.is("1", 1, x.board.look(7 + t));
            DUE.is("not yet", 0x80, x.board.device(STATUS_A));
            x.wait(1);
            DUE.is("LATCH, never 0", 3, x.board.look(7 + t));
            DUE.is("its bit at the end", 0x80 | bit, x.board.device(STATUS_A));
        }
    }

    /** "TIMER t (0, 1)": each has its own LATCH, COUNT, SEEN and bit. */
    private static void timersAtOnce() {
        Bench x = new Bench();
        x.writeDevice(0x80010, 10);
        x.writeDevice(0x80014, 10);
        x.writeDevice(0x80012, 0);
        x.writeDevice(0x80016, 0);
        DUE.is("COUNT of TIMER 0", 8, x.board.look(7));
        DUE.is("COUNT of TIMER 1", 9, x.board.look(8));
        x.wait(32);
        DUE.is("only TIMER 0", 0x80 | 0x20, x.board.device(STATUS_A));
        x.wait(4);
        DUE.is("TIMER 1, too", 0x80 | 0x60, x.board.device(STATUS_A));
    }

    // ---- the disk

    private static Bench command(int sector, int page, int b) {
        Bench x = new Bench();
        x.writeDevice(SECTOR, sector);
        x.writeDevice(PAGE, page);
        x.writeDevice(COMMAND, b);
        return x;
    }

    /** "DISK of 16 SECTORS of 1024 words"; "1 (a SECTOR to a PAGE) or 2 (a PAGE to a SECTOR)" */
    private static void diskSectorsAndPages() {
        for (int k : new int[] {0, 15}) {
            for (int b = 1; b <= 2; b++) {
                Bench x = command(k, 15 - k, b);
                int page = 1024 * (15 - k);
                x.poke(page, 11);
                x.poke(page + 1023, 12);
                x.board.store(k, 0, 21);
                x.board.store(k, 1023, 22);
                x.wait(4996);
                String name = "SECTOR " + k + " by " + b;
                DUE.is(name + ": first word of the PAGE", b == 1 ? 21 : 11, x.board.peek(page));
                DUE.is(name + ": last word of the PAGE", b == 1 ? 22 : 12, x.board.peek(page + 1023));
                DUE.is(name + ": first word of the SECTOR", b == 1 ? 21 : 11, x.board.stored(k, 0));
                DUE.is(name + ": last word of the SECTOR", b == 1 ? 22 : 12, x.board.stored(k, 1023));
                DUE.is(name + ": beside them", 0, x.board.peek(k == 15 ? 1024 : 1024 * 15 - 1) + x.board.stored(15 - k, 0)
                    + x.board.stored(15 - k, 1023));
                DUE.is(name + ": 1024 words", 1024, x.board.count(11));
            }
        }
    }

    /** "if SECTOR or PAGE is above 15, or for another byte, it is WRONG and ready at once" */
    private static void diskWrong() {
        int[][] due = {
            // SECTOR, PAGE, byte, WRONG
            {15, 15, 1, 0}, {15, 15, 2, 0}, {0, 0, 1, 0}, {0, 0, 2, 0}, {0, 0, 0x101, 0}, {256, 256, 2, 0},
            {16, 0, 1, 1}, {16, 0, 2, 1}, {0, 16, 1, 1}, {0, 16, 2, 1}, {255, 255, 1, 1}, {128, 0, 2, 1}, {0, 128, 1, 1},
            {0, 0, 0, 1}, {0, 0, 3, 1}, {0, 0, 255, 1}, {0, 0, 128, 1}, {0, 0, 0x100, 1}, {16, 16, 3, 1},
        };
        for (int[] d : due) {
            Bench x = command(d[0], d[1], d[2]);
            String name = "DISK " + d[0] + " " + d[1] + " " + d[2];
            DUE.is(name + " state", d[3] == 1 ? 2 : 1, x.board.device(COMMAND));
            DUE.is(name + " TICKS up to the end", d[3] == 1 ? 0 : 4996, x.board.look(9));
            DUE.is(name + " DISK of B", d[3] * 8, x.board.device(STATUS_B) & 8);
            DUE.is(name + " DISK of F", d[3], x.board.device(STATUS_F) & 1);
            x.wait(5000);
            DUE.is(name + " words", d[3] == 1 ? 0 : 1024, x.board.count(11));
            DUE.is(name + " WRONG stays", d[3] * 2, x.board.device(COMMAND));
        }
    }

    /** "if it is BUSY nothing" */
    private static void diskBusy() {
        Bench x = command(1, 2, 1);
        x.board.store(1, 7, 77);
        int left = x.board.look(9);
        for (int b : new int[] {1, 2, 0, 3}) {
            x.writeDevice(COMMAND, b);
            left -= 4;
            DUE.is("it goes on by " + b, left, x.board.look(9));
            DUE.is("it is BUSY by " + b, 1, x.board.device(COMMAND));
            DUE.is("DISK is 0 by " + b, 0x40, x.board.device(STATUS_B));
        }
        x.writeDevice(SECTOR, 16);
        x.writeDevice(COMMAND, 1);
        DUE.is("with a wrong SECTOR, too", 1, x.board.device(COMMAND));
        x.wait(left - 8 - 1);
        DUE.is("BUSY up to the last TICK", 1, x.board.device(COMMAND));
        x.wait(1);
        DUE.is("what was begun is done", 77, x.board.peek(2048 + 7));
        DUE.is("it is not WRONG", 0, x.board.device(COMMAND));
        x.writeDevice(COMMAND, 1);
        DUE.is("now it is", 2, x.board.device(COMMAND));
        x.writeDevice(SECTOR, 3);
        x.writeDevice(COMMAND, 2);
        DUE.is("ready, so BUSY again", 1, x.board.device(COMMAND));
    }

    /** "ready 5000 TICKS later: only then all is copied"; "Ready: DISK is 1." */
    private static void diskReady() {
        for (int b = 1; b <= 2; b++) {
            Bench x = command(4, 5, b);
            x.wait(4995);
            // What is there only now is copied.
            x.poke(5 * 1024, 55);
            x.board.store(4, 0, 44);
            DUE.is("4999 TICKS: BUSY", 1, x.board.device(COMMAND));
            DUE.is("one TICK is left", 1, x.board.look(9));
            DUE.is("DISK is 0", 0x40, x.board.device(STATUS_B));
            DUE.is("nothing is copied", 0, x.board.count(11));
            x.wait(1);
            DUE.is("5000 TICKS: ready", 0, x.board.device(COMMAND));
            DUE.is("DISK of B", 0x48, x.board.device(STATUS_B));
            DUE.is("DISK of F", 0x81, x.board.device(STATUS_F));
            DUE.is("all is copied", b == 1 ? 44 : 55, b == 1 ? x.board.peek(5 * 1024) : x.board.stored(4, 0));
            x.wait(6000);
            DUE.is("once", 1024, x.board.count(11));
        }
        // A STEP of 4 TICKS may go beyond the last one.
        Bench x = command(0, 0, 2);
        x.wait(4994);
        x.writeDevice(0, 0);
        DUE.is("ready in a longer STEP", 0, x.board.look(9));
        DUE.is("copied in a longer STEP", 1024, x.board.count(11));
    }

    /** "as SECTOR and PAGE were when it was written" */
    private static void diskAsWritten() {
        Bench x = command(3, 4, 1);
        x.board.store(3, 0, 33);
        x.board.store(6, 0, 66);
        x.writeDevice(SECTOR, 6);
        x.writeDevice(PAGE, 255);
        DUE.is("they can be written", 6, x.board.device(SECTOR));
        DUE.is("they can be written", 255, x.board.device(PAGE));
        x.wait(5000);
        DUE.is("as they were", 33, x.board.peek(4 * 1024));
        DUE.is("it is not WRONG", 0, x.board.device(COMMAND));
        DUE.is("SECTOR stays as it is", 6, x.board.device(SECTOR));
        DUE.is("PAGE stays as it is", 255, x.board.device(PAGE));
    }

    /** "Read: 1 BUSY, else 2 if it was WRONG the last time, else 0; DISK is 0 then." */
    private static void diskRead() {
        Bench x = new Bench();
        DUE.is("at first", 0, x.read(Bench.device(COMMAND)));
        x.writeDevice(COMMAND, 0);
        x.read(Bench.device(SECTOR));
        x.read(Bench.device(PAGE));
        x.read(Bench.device(COMMAND + 1));
        DUE.is("reads beside it leave DISK", 0x48, x.board.device(STATUS_B));
        DUE.is("WRONG", 2, x.read(Bench.device(COMMAND)));
        DUE.is("DISK of B is 0", 0x40, x.board.device(STATUS_B));
        DUE.is("DISK of F is 0", 0x80, x.board.device(STATUS_F));
        DUE.is("still WRONG", 2, x.read(Bench.device(COMMAND)));
        x.writeDevice(COMMAND, 9);
        x.writeDevice(COMMAND, 2);
        DUE.is("BUSY", 1, x.read(Bench.device(COMMAND)));
        DUE.is("DISK is 0 by that, too", 0x40, x.board.device(STATUS_B));
        x.wait(5000);
        DUE.is("DISK is 1", 0x48, x.board.device(STATUS_B));
        DUE.is("not WRONG the last time", 0, x.read(Bench.device(COMMAND)));
        DUE.is("DISK is 0 then", 0x40, x.board.device(STATUS_B));
        DUE.is("of F, too", 0x80, x.board.device(STATUS_F));
    }

    /** The PAGE that a program stands in may be copied over: the next STEP is of the new words. */
    private static void diskToItsOwn() {
        Bench x = new Bench();
        x.board.store(9, 64, Code.SWI);
        x.writeDevice(SECTOR, 9);
        x.writeDevice(PAGE, 0);
        x.writeDevice(COMMAND, 1);
        x.poke(64, Code.STAY);
        x.put(0, 15, QUIET | 0x100);
        DUE.is("up to the end", 1249, x.board.run(4996));
        DUE.is("no SWI yet", 0, x.board.count(3));
        x.board.step(1);
        DUE.is("then SWI", 1, x.board.count(3));
    }

    // ---- the picture

    /** "each 20000 TICKS (from RESET on) the PICTURE .. is made"; "Then bit 3 of STATUS A is 1." */
    private static void fieldTicks() {
        Bench x = new Bench();
        x.write(0x3400000, 16 << 26 | 5);
        x.wait(19995);
        DUE.is("19999 TICKS: no FIELD", 0, x.board.count(9));
        DUE.is("no bit", 0x80, x.board.device(STATUS_A));
        DUE.is("no PICTURE", 0, x.board.place(0, 0));
        x.wait(1);
        DUE.is("20000 TICKS: a FIELD", 1, x.board.count(9));
        DUE.is("its bit", 0x88, x.board.device(STATUS_A));
        DUE.is("its PICTURE", 5, x.board.place(0, 0));
        x.write(0x3400000, 16 << 26 | 6);
        x.wait(19995);
        DUE.is("39999 TICKS", 1, x.board.count(9));
        DUE.is("the latest PICTURE", 5, x.board.place(63, 31));
        x.wait(1);
        DUE.is("40000 TICKS", 2, x.board.count(9));
        DUE.is("the next PICTURE", 6, x.board.place(63, 31));
        // A STEP of 4 TICKS that goes 2 beyond the end: these count for the next FIELD.
        x.wait(19998);
        x.writeDevice(0, 0);
        DUE.is("60002 TICKS", 3, x.board.count(9));
        DUE.is("up to the next end", 19998, x.board.look(11));
    }

    /** "(from RESET on)" */
    private static void fieldFromReset() {
        Bench x = new Bench();
        x.wait(19999);
        x.board.reset();
        x.wait(19999);
        DUE.is("39998 TICKS, 19999 from RESET on", 0, x.board.count(9));
        x.wait(1);
        DUE.is("20000 from RESET on", 1, x.board.count(9));
    }

    private static int sumOfPlaces(Bench x, int from, int to) {
        int sum = 0;
        for (int k = from; k < to; k++) {
            sum += x.board.place(k % 64, k / 64);
        }
        return sum;
    }

    /** "of 32 rows of 64 places is made: without VIDEO each has the BORDER's colour." */
    private static void fieldWithoutVideo() {
        for (int from = 0; from < 2048; from += 256) {
            Bench x = new Bench();
            x.write(0x3400000, 0x111);
            x.write(0x3400000, 16 << 26 | 0x1FFF);
            x.write(0x3400000, 56 << 26 | 0xC);
            x.wait(20000 - 12);
            DUE.is("places from " + from, 256 * 0x1FFF, sumOfPlaces(x, from, from + 256));
        }
    }

    /** COLOUR k is k for each of 16; VIDEO is 1; HIGH is the end of MEMORY. 19 writes. */
    private static Bench withVideo(int depth) {
        Bench x = new Bench();
        for (int k = 0; k < 16; k++) {
            x.write(0x3400000, k << 26 | k);
        }
        x.write(0x3400000, 56 << 26 | depth << 2);
        x.write(0x36E0400, 0);
        high(x, 0xFFF);
        return x;
    }

    private static void start(Bench x, int to) {
        x.write(0x3600000 | to << 2, 0);
    }

    private static void low(Bench x, int to) {
        x.write(0x3620000 | to << 2, 0);
    }

    private static void high(Bench x, int to) {
        x.write(0x3640000 | to << 2, 0);
    }

    /** Up to the next FIELD's end. */
    private static void field(Bench x) {
        x.wait(x.board.look(11));
    }

    /** Byte by byte: 0 .. 255 again and again would hide a turn by 256, so each byte is its number modulo 251. */
    private static int byteOf(int at) {
        return at % 251;
    }

    private static void fill(Bench x, int fromWord, int words) {
        for (int i = fromWord; i < fromWord + words; i += 2) {
            x.board.poke(i, wordOf(i), wordOf(i + 1));
        }
    }

    private static int wordOf(int i) {
        int at = 4 * i;
        return byteOf(at) | byteOf(at + 1) << 8 | byteOf(at + 2) << 16 | byteOf(at + 3) << 24;
    }

    private static int shown(int v) {
        return v % 16 ^ v / 16 * 256;
    }

    /** "2^DEPTH for a place, from the lowest bit of byte 16 START on (modulo 65536), byte by byte" */
    private static void fieldDepths() {
        for (int depth = 0; depth < 4; depth++) {
            Bench x = withVideo(depth);
            start(x, 0x802);
            int size = 1 << depth;
            fill(x, 0x8020 / 4, 32);
            field(x);
            int places = Math.min(128, 32 * 4 * 8 / size);
            for (int k = 0; k < places; k++) {
                int v = byteOf(0x8020 + k * size / 8) >> k * size % 8 & (1 << size) - 1;
                DUE.is("DEPTH " + depth + " place " + k, shown(v), x.board.place(k % 64, k / 64));
            }
        }
        // The last place of DEPTH 0 is bit 7 of byte 255, of DEPTH 3 byte 2047.
        int[] lastBytes = {255, 511, 1023, 2047};
        int[] lastValues = {1, 3, 15, 15 ^ 0xF00};
        for (int depth = 0; depth < 4; depth++) {
            Bench x = withVideo(depth);
            start(x, 0x800);
            x.poke((0x8000 + lastBytes[depth]) / 4, 0xFF << 24);
            field(x);
            DUE.is("the last place of DEPTH " + depth, lastValues[depth], x.board.place(63, 31));
            DUE.is("the first place of DEPTH " + depth, 0, x.board.place(0, 0));
        }
    }

    /** "byte 16 START on (modulo 65536)" */
    private static void fieldWrapsAtMemorysEnd() {
        for (int turn = 0; turn < 8; turn++) {
            Bench x = withVideo(3);
            // HIGH lies behind START, so that byte 0 comes behind byte 65535.
            start(x, turn * 0x1000 | 0xFFF);
            high(x, 0x010);
            fill(x, 0xFFF0 / 4, 4);
            fill(x, 0, 16);
            field(x);
            for (int k = 0; k < 64; k++) {
                int at = (0xFFF0 + k) % 65536;
                DUE.is("START " + turn + " place " + k, shown(byteOf(at)), x.board.place(k, 0));
            }
        }
    }

    /** "behind byte 16 HIGH + 15 (modulo 65536) byte 16 LOW comes." */
    private static void fieldFromHighToLow() {
        int[][] due = {
            // START, LOW, HIGH: 16 bytes once, then LOW again and again
            {0x800, 0x900, 0x800}, {0x800, 0x900, 0x7800}, {0x4800, 0x5900, 0x1800}, {0x800, 0x800, 0x800}, {0xFFF, 0x900, 0x7FFF},
        };
        for (int[] d : due) {
            Bench x = withVideo(3);
            start(x, d[0]);
            low(x, d[1]);
            high(x, d[2]);
            int first = d[0] * 16 % 65536;
            int next = d[1] * 16 % 65536;
            fill(x, first / 4, 4);
            fill(x, next / 4, 16);
            field(x);
            for (int k = 0; k < 48; k++) {
                int at = k < 16 ? first + k : next == first ? first + k % 16 : next + k - 16;
                DUE.is("START " + d[0] + " LOW " + d[1] + " HIGH " + d[2] + " place " + k, shown(byteOf(at)), x.board.place(k, 0));
            }
        }
    }

    /** "behind byte 16 HIGH + 15": with START behind it MEMORY's end comes first, and bits go on in the next byte. */
    private static void fieldBehindHigh() {
        Bench x = withVideo(0);
        start(x, 0x801);
        high(x, 0x800);
        low(x, 0x810);
        fill(x, 0x8010 / 4, 64);
        field(x);
        for (int k = 0; k < 128; k++) {
            int bit = 16 * 8 + k;
            DUE.is("place " + bit, byteOf(0x8010 + bit / 8) >> bit % 8 & 1, x.board.place(bit % 64, bit / 64));
        }
    }

    /** "A value v of these bits: COLOUR v modulo 16, exclusive or v / 16 * 256." */
    private static void fieldValues() {
        Bench x = withVideo(3);
        x.write(0x3400000, 5 << 26 | 0x1FFF);
        start(x, 0x800);
        x.poke(0x2000, 0xF5151005);
        x.poke(0x2001, 0xFFF0100F);
        field(x);
        int[] want = {0x1FFF, 0x100, 0x1EFF, 0x10FF, 0xF, 0x100, 0xF00, 0xF0F};
        for (int k = 0; k < want.length; k++) {
            DUE.is("value " + k, want[k], x.board.place(k, 0));
        }
    }

    /** "Of one TICK the order is: TIMER 0, TIMER 1, TX, DISK, FIELD." */
    private static void orderOfOneTick() {
        for (int behind : new int[] {-1, 0, 1}) {
            Bench x = withVideo(3);
            start(x, 0x400);
            x.board.store(0, 0, 0x0E0E0E0E);
            x.writeDevice(PAGE, 4);
            x.wait(x.board.look(11) - 5000 + behind);
            x.writeDevice(COMMAND, 1);
            DUE.is("the DISK is ready so many TICKS behind the FIELD", behind, x.board.look(9) - x.board.look(11));
            field(x);
            DUE.is("the DISK by " + behind, behind <= 0 ? 14 : 0, x.board.place(0, 0));
        }
        // The same within one STEP of 4 TICKS.
        for (int behind : new int[] {-1, 0, 1}) {
            Bench x = withVideo(3);
            start(x, 0x400);
            x.board.store(0, 0, 0x0E0E0E0E);
            x.writeDevice(PAGE, 4);
            x.wait(x.board.look(11) - 5000 + behind);
            x.writeDevice(COMMAND, 1);
            x.wait(x.board.look(11) - 2);
            x.writeDevice(0, 0);
            DUE.is("both in one STEP", 1025, x.board.count(9) + x.board.count(11));
            DUE.is("the DISK in one STEP by " + behind, behind <= 0 ? 14 : 0, x.board.place(0, 0));
        }
        // All five in one TICK.
        Bench x = new Bench();
        x.writeDevice(0x80010, 3);
        x.writeDevice(0x80014, 2);
        x.wait(15000 - 8);
        x.writeDevice(COMMAND, 2);
        x.wait(5000 - 4 - 256);
        x.writeDevice(SERIAL, 1);
        x.wait(20000 - 4 - 8 - (int) x.board.count(0));
        x.writeDevice(0x80012, 0);
        x.writeDevice(0x80016, 0);
        DUE.is("four TICKS are left", 4, x.board.look(11));
        x.wait(3);
        DUE.is("none is done", 0x80, x.board.device(STATUS_A) | x.board.device(STATUS_B));
        x.wait(1);
        DUE.is("DISK, TX", 0x48, x.board.device(STATUS_B));
        DUE.is("FIELD and both TIMERS", 0xE8, x.board.device(STATUS_A));
    }

    // ---- all of them

    /** "RESET: all 0 but as told"; "7 always 1"; "6 TX (1 at RESET)": of a new object and behind reset(). */
    private static void reset() {
        Bench x = new Bench();
        isReset("a new object", x.board);
        x.board.key(0xFF);
        for (int k = 0; k < 24; k++) {
            x.writeDevice(0x80000 + k, 0xFF);
        }
        x.writeDevice(SECTOR, 0xFF);
        x.writeDevice(PAGE, 0xFF);
        x.writeDevice(COMMAND, 0xFF);
        x.board.reset();
        isReset("behind reset()", x.board);
    }

    private static void isReset(String name, PageBoard b) {
        for (int k = 0; k < 32; k++) {
            int want = k == 4 || k == 12 ? 0x80 : k == 8 ? 0x40 : 0;
            DUE.is(name + ": word " + k, want, b.device(0x80000 + k));
        }
        for (int k = 0; k < 3; k++) {
            DUE.is(name + ": DISK's word " + k, 0, b.device(SECTOR + k));
        }
        for (int what : new int[] {7, 8, 9, 10, 12, 13}) {
            DUE.is(name + ": look " + what, 0, b.look(what));
        }
        DUE.is(name + ": up to the FIELD's end", 20000, b.look(11));
    }

    /** "RESET: .. devices begin anew": LATCH, which no word shows, TX and the DISK's copy are ended by it, too. */
    private static void resetEndsWhatIsUnderWay() {
        Bench x = new Bench();
        x.writeDevice(0x80010, 1);
        x.writeDevice(0x80015, 1);
        x.writeDevice(SERIAL, 1);
        x.writeDevice(COMMAND, 2);
        x.board.reset();
        DUE.is("TX is 1 at once", 0x40, x.board.device(STATUS_B));
        DUE.is("not BUSY", 0, x.board.device(COMMAND));
        x.wait(6000);
        DUE.is("TIMERS without LATCH", 0, x.board.look(7) + x.board.look(8));
        DUE.is("no TIMER's bit", 0x80, x.board.device(STATUS_A));
        DUE.is("nothing was copied", 0, x.board.count(11));
        DUE.is("DISK stays 0", 0x40, x.board.device(STATUS_B));
    }
}
