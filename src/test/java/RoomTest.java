import com.sun.management.ThreadMXBean;
import java.lang.management.ManagementFactory;
import java.util.Random;

/** A run lives in a small room: rows are made with the object, and calls make nothing. */
public final class RoomTest {
    private static final ThreadMXBean BEAN = (ThreadMXBean) ManagementFactory.getThreadMXBean();

    public static void main(String[] args) {
        byte[] octets = Spec.plain().fill(new Random(1), 1).build();
        byte[] faulty = Spec.plain().set("dim", 9).build();
        look(octets, faulty, false);
        look(octets, faulty, true);
        Check.end();
    }

    /** The first look only loads the classes. */
    private static void look(byte[] octets, byte[] faulty, boolean counts) {
        long start = BEAN.getCurrentThreadAllocatedBytes();
        TextEngine x = Spec.engine(octets);
        x.load();
        long made = BEAN.getCurrentThreadAllocatedBytes();
        for (int i = 0; i < 30; i++) {
            x.load();
            x.text(0x6261, 2);
            x.encode();
            x.step(i % 4);
            x.draw(100, 16, 90);
            x.say(16);
            x.reset();
        }
        x.clear();
        Spec.feed(x, faulty);
        x.load();
        long used = BEAN.getCurrentThreadAllocatedBytes();
        if (counts) {
            Check.holds("an object has some " + (made - start) + " bytes", made - start < 60_000);
            Check.holds("its calls make " + (used - made) + " bytes", used - made < 4_000);
        }
    }
}
