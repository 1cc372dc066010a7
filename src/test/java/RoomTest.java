import com.sun.management.ThreadMXBean;
import java.lang.management.ManagementFactory;

/** All calls of a run live in one room: so no call makes an object. */
public final class RoomTest {
    private static final long SPARE_BYTES = 20000;
    private static final int OBJECTS = 10;

    public static void main(String[] args) {
        ThreadMXBean meter = (ThreadMXBean) ManagementFactory.getThreadMXBean();
        if (!meter.isThreadAllocatedMemorySupported()) {
            Check.due("without a meter nothing is measured", 0, 0);
            Check.finish("RoomTest");
            return;
        }
        int sum = calls(new BlessedPins()) + calls(new BlessedPins());
        BlessedPins[] objects = new BlessedPins[OBJECTS];
        for (int i = 0; i < OBJECTS; i++) {
            objects[i] = new BlessedPins();
        }
        meter.getCurrentThreadAllocatedBytes();
        long before = meter.getCurrentThreadAllocatedBytes();
        for (BlessedPins x : objects) {
            sum += calls(x);
        }
        long bytes = meter.getCurrentThreadAllocatedBytes() - before;
        Check.due("calls of " + sum + " made " + bytes + " bytes", bytes < SPARE_BYTES ? 1 : 0, 1);
        Check.finish("RoomTest");
    }

    /** Some 430 calls. */
    private static int calls(BlessedPins x) {
        int sum = 0;
        for (int net = 0; net < 4; net++) {
            sum += x.net(3 << 2 * net) + x.fault(2, net, 0) + x.fault(0, net, 0) + x.bless(net, 1 << net);
        }
        sum += x.chip(8, 9, 1024) + x.fault(4, 0, 0) + x.fault(0, 15, 0);
        for (int round = 0; round < 4; round++) {
            for (int fault = -1; fault < 10; fault++) {
                sum += x.reached(0, fault) + x.scanned(0, fault) + x.reads(0, fault, 0, 1) + x.daysOf(fault);
                sum += x.alike(0, fault) + x.twin(fault) + x.likes(1, fault) + x.wanted(fault, 6, 1);
            }
            sum += x.outcomes(0) + x.fewestDays(0, 0) + x.fewestDays(1, 1) + x.share(1) + x.plant(3);
            sum += x.test() + x.vouch(9) + x.vouchers(3) + x.pass(1) + x.suspects() + x.bestDay(0);
            sum += x.file(0, 2) + x.count(7) + x.undo() + x.type('l') + x.place(0) + x.clearText() + x.run();
        }
        return sum;
    }
}
