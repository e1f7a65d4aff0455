import com.sun.management.ThreadMXBean;
import java.lang.management.ManagementFactory;

/** What 512 of the dearest calls take: all rows are made with the object, and at the first keep(). */
public final class RoomTest {
    private static final long MOST_BYTES = 40000;

    public static void main(String[] args) {
        ThreadMXBean bean = (ThreadMXBean) ManagementFactory.getThreadMXBean();
        runOnce();
        long before = bean.getThreadAllocatedBytes(Thread.currentThread().getId());
        int answers = runOnce();
        long taken = bean.getThreadAllocatedBytes(Thread.currentThread().getId()) - before;
        Due.due("answers of the run", answers, 512);
        Due.due("a run of 512 calls takes " + taken + " bytes, too many", taken <= MOST_BYTES ? 1 : 0, 1);
        Due.finish("RoomTest");
    }

    private static int runOnce() {
        SquareTiler x = new SquareTiler();
        int answers = 0;
        for (int i = 0; i < 21; i++) {
            x.tell(i % 7, i / 7, 1);
            answers++;
        }
        for (; answers < 512; answers++) {
            switch (answers % 13) {
                case 0: x.read(7, 3); break;
                case 1: x.rectangle(4); break;
                case 2: x.within(0); break;
                case 3: x.keep(); break;
                case 4: x.grant(); break;
                case 5: x.judge(); break;
                case 6: x.copy(); break;
                case 7: x.about(); break;
                case 8: x.mirror(); break;
                case 9: x.at(0, 0); break;
                case 10: x.trees(); break;
                case 11: x.back(); break;
                default: x.fit(7, 3); break;
            }
        }
        return answers;
    }
}
