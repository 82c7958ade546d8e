import com.sun.management.ThreadMXBean;
import java.lang.management.ManagementFactory;

/** A run of 512 calls makes little: all runs live in one room. */
public final class RoomTest {
    /** The room has some 7.3 million fields and elements; a run keeps far below. */
    private static final long MOST_BYTES = 200_000;

    public static void main(String[] args) {
        ThreadMXBean threads = (ThreadMXBean) ManagementFactory.getThreadMXBean();
        if (!threads.isThreadAllocatedMemorySupported()) {
            System.out.println("this machine does not tell what is made");
            return;
        }
        for (int kind = 0; kind < 6; kind++) {
            run(kind);
            long before = threads.getCurrentThreadAllocatedBytes();
            run(kind);
            long made = threads.getCurrentThreadAllocatedBytes() - before;
            Due.due("run " + kind + " made " + made + " bytes", made <= MOST_BYTES ? 1 : 0, 1);
        }
        Due.finish();
    }

    private static void run(int kind) {
        EvenlyPoured tea = new EvenlyPoured();
        tea.set(0, 0, kind % 2 == 0 ? 2 : 4);
        tea.set(1, 0, kind % 2 == 0 ? 9 : 8);
        tea.sheet(0, 2, tea.count(0));
        for (int pourer = 0; pourer < 6; pourer++) {
            tea.pourer(pourer, pourer);
        }
        for (int k = 0; k < 500; k++) {
            switch (kind) {
                case 0:
                    tea.set(1, 0, k % 17);
                    tea.evenest(0);
                    break;
                case 1:
                    tea.tastes(0, k % 2);
                    break;
                case 2:
                    tea.feed(';');
                    tea.text();
                    break;
                case 3:
                    tea.image();
                    tea.pourer(k % 6, 1);
                    tea.back();
                    break;
                case 4:
                    tea.sheet(k % 4, k % 3, 40);
                    tea.copy(0, 0, 3, 0, 40);
                    break;
                default:
                    tea.which(0);
                    tea.whom(0);
                    tea.chance(k, 20, 20, 0);
                    break;
            }
        }
    }
}
