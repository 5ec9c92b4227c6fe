import com.sun.management.ThreadMXBean;
import java.lang.management.ManagementFactory;

/** All calls live in one room: an object is small, and its calls make nothing new, the dearest ones too. */
public final class RoomTest {
    private static final ThreadMXBean ROOM = (ThreadMXBean) ManagementFactory.getThreadMXBean();
    private static final String TENT = Check.FAIR;
    private static final String ROUND = "loop 99; loop 99; shoot ann; wipe; shoot cid; next; when holes > 20; beat 3; end; end; end;";

    private static long used() {
        return ROOM.getThreadAllocatedBytes(Thread.currentThread().getId());
    }

    private static int calls(PeaTube x, int[] tent, int tentLength, int[] round, int roundLength) {
        int sum = 0;
        for (int at = 0; at + 5 <= tent.length; at += 5) {
            sum += x.feed(tent[at], tent[at + 1], tent[at + 2], tent[at + 3], tent[at + 4]);
        }
        sum += x.tent(tentLength);
        for (int at = 0; at + 5 <= round.length; at += 5) {
            sum += x.feed(round[at], round[at + 1], round[at + 2], round[at + 3], round[at + 4]);
        }
        sum += x.round(roundLength);
        sum += x.tray(0, 3, 60) ? 1 : 0;
        sum += x.write(0, 1, 2) ? 1 : 0;
        sum += x.bestAim(2, 0, 30, 0, 0);
        sum += x.bestPuff(2, 0, 0, 0, 0);
        sum += x.bestBeat(2, 0, 30, 0, 0);
        sum += x.longest(2, 0, 30, 0, 0, 0);
        sum += x.bestPea(2, 30, 0);
        sum += x.series(2, 0, 30, 0, 0, 30, 30) ? 1 : 0;
        sum += x.wipeEvery(2, 0, 30, 30, 5);
        sum += x.turns(0, 0, 2, 0, 5, 0) ? 1 : 0;
        sum += x.knock(0, 0, 0) ? 1 : 0;
        sum += x.mark();
        sum += x.play(17);
        sum += x.wins(0, 3, 20) ? 1 : 0;
        sum += x.whose(1, 1) + x.worst(0) + x.same();
        sum += x.lean(-1, -1, 2) ? 1 : 0;
        sum += x.back();
        return sum;
    }

    private static int[] ints(String text) {
        int[] row = new int[(text.length() + 19) / 20 * 5];
        for (int i = 0; i < row.length * 4; i++) {
            row[i / 4] = row[i / 4] << 8 | (i < text.length() ? text.charAt(i) : 32);
        }
        return row;
    }

    public static void main(String[] args) {
        int[] tent = ints(TENT);
        int[] round = ints(ROUND);
        used();
        PeaTube warm = new PeaTube();
        int first = calls(warm, tent, TENT.length(), round, ROUND.length());
        long before = used();
        PeaTube x = new PeaTube();
        long made = used() - before;
        long begin = used();
        int sum = 0;
        for (int i = 0; i < 10; i++) {
            sum += calls(x, tent, TENT.length(), round, ROUND.length());
        }
        long grown = used() - begin;
        System.out.println("an object has " + made + " bytes, its calls make " + grown);
        Check.due("an object is below 40,000 bytes", made < 40000, true);
        Check.due("calls make next to nothing: " + grown, grown < 2000, true);
        Check.due("the calls are the same each time", sum, 10L * first);
        Check.end();
    }
}
