import java.lang.management.ManagementFactory;

/**
 * All calls of a run live in one room of some 600,000 objects: 512 of the dearest calls may make
 * next to nothing.
 */
public final class RoomTest {
    private static final int CALLS = 512;
    private static final long FEW_BYTES = 20_000;

    private RoomTest() {
    }

    public static void main(String[] args) {
        com.sun.management.ThreadMXBean room =
                (com.sun.management.ThreadMXBean) ManagementFactory.getThreadMXBean();
        play(new HopOast());
        long before = room.getCurrentThreadAllocatedBytes();
        HopOast oast = new HopOast();
        long made = room.getCurrentThreadAllocatedBytes() - before;
        play(oast);
        long played = room.getCurrentThreadAllocatedBytes() - before - made;
        if (made > FEW_BYTES || played > FEW_BYTES) {
            System.out.println("a new object took " + made + " bytes, its calls " + played);
            System.exit(1);
        }
    }

    private static void play(HopOast oast) {
        for (int call = 0; call < CALLS / 16; call++) {
            // repeat 9(repeat 9(wait 9;););
            oast.append(0x72657065, 0x61742039, 0x28726570, 0x65617420, 0x39287761);
            oast.append(0x69742039, 0x3b293b29, 0x3b000000, 0, 0);
            oast.runScript();
            oast.temperatureAfter(0, 300);
            oast.writeFloors();
            oast.writeSacks();
            oast.save(0);
            oast.restore(0);
            oast.save(1);
            oast.minutesUntilDry(0);
            oast.undoCount();
            // oast 9 0 0 0 0;floor 90;load 0 1 1;
            oast.append(0x6f617374, 0x20392030, 0x20302030, 0x20303b66, 0x6c6f6f72);
            oast.append(0x2039303b, 0x6c6f6164, 0x20302031, 0x20313b00, 0);
            if (oast.load() != 0) {
                throw new AssertionError("the setup is wrong at " + oast.errorPosition());
            }
        }
    }
}
