import java.util.ArrayList;
import java.util.List;

/** What can be seen of a board, in fewer than 150 calls: two looks fit into an object's 512. */
final class Snapshot {
    /** A MODE and the first one of the registers that it has of its own. */
    static final int[][] REGISTERS = {{Code.USER, 0}, {Code.FIQ, 8}, {Code.IRQ, 13}, {Code.SVC, 13}};

    private final List<String> names = new ArrayList<>();
    private final List<Long> values = new ArrayList<>();

    Snapshot(PageBoard b) {
        seeBegun(b);
        seeKept(b);
    }

    private Snapshot() {
    }

    /** Only what RESET begins anew: registers, ENTRIES and devices. */
    static Snapshot ofBegun(PageBoard b) {
        Snapshot s = new Snapshot();
        s.seeBegun(b);
        return s;
    }

    /** Only what RESET leaves as it is. */
    static Snapshot ofKept(PageBoard b) {
        Snapshot s = new Snapshot();
        s.seeKept(b);
        return s;
    }

    private void see(String name, long value) {
        names.add(name);
        values.add(value);
    }

    private void seeBegun(PageBoard b) {
        for (int[] own : REGISTERS) {
            for (int r = own[1]; r < 15; r++) {
                see("register " + own[0] + " " + r, b.register(own[0], r));
            }
        }
        see("R15", b.register(0, 15));
        for (int e = 0; e < 16; e++) {
            see("NUMBER " + e, b.entry(e, 0));
            see("LEVEL " + e, b.entry(e, 1));
        }
        for (int what = 0; what < 32; what++) {
            see("look " + what, b.look(what));
        }
        for (int k = 0; k < 24; k++) {
            see("device " + k, b.device(0x80000 + k));
        }
        for (int k = 0; k < 3; k++) {
            see("disk " + k, b.device(0x4000 + k));
        }
    }

    private void seeKept(PageBoard b) {
        for (int what = 0; what < 13; what++) {
            see("count " + what, b.count(what));
        }
        for (int k = 0; k < 4; k++) {
            see("place " + k, b.place(k % 2 * 63, k / 2 * 31));
        }
        for (int i : new int[] {0, 1, 16382, 16383}) {
            see("peek " + i, b.peek(i));
        }
        see("stored 0 0", b.stored(0, 0));
        see("stored 15 1023", b.stored(15, 1023));
        see("letter 0", b.letter(0));
        see("letter 1", b.letter(1));
    }

    /** Asks that what is seen now is what was seen then. */
    void isStill(Due due, String name, Snapshot then) {
        due.is(name + ": as many answers", then.values.size(), values.size());
        for (int k = 0; k < values.size(); k++) {
            due.is(name + ": " + names.get(k), then.values.get(k), values.get(k));
        }
    }
}
