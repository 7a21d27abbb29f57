import java.lang.management.ManagementFactory;

/** No call makes objects of its own, as all calls of a run live in one room; only what is thrown is made anew. */
public final class RoomTest {
    private static final long MOST_BYTES = 8_000;

    private RoomTest() {
    }

    public static void main(String[] args) {
        spent(1);
        Checks.due("512 rounds stay below " + MOST_BYTES + " bytes", spent(512) < MOST_BYTES, true);
        Checks.close("RoomTest");
    }

    /** A round is one call of each method; a single small array in one of them would be seen. */
    private static long spent(int rounds) {
        FountainCues x = new FountainCues();
        com.sun.management.ThreadMXBean threads = (com.sun.management.ThreadMXBean) ManagementFactory.getThreadMXBean();
        long id = Thread.currentThread().getId();
        long before = threads.getThreadAllocatedBytes(id);
        for (int i = 0; i < rounds; i++) {
            round(x, i);
        }
        return threads.getThreadAllocatedBytes(id) - before;
    }

    private static void round(FountainCues x, int i) {
        x.jet(i % 8, 1 + i % 20, i % 4);
        x.aim(i % 8, i % 11);
        x.pump(i % 2, 2000);
        x.wind(i % 21);
        x.fill(1 + i % 100);
        x.set(2, 1 + i % 10);
        x.drop(x.cue(x.count(0), i % 8, i % 5));
        x.play(1);
        x.append('9');
        x.append('@');
        x.append('a');
        x.append('1');
        x.firstError();
        x.cueAll();
        x.clearBuffer();
        x.jetOf(i % 8, 5);
        x.pumpOf(i % 2, 2);
        x.cueOf(0, 0);
        x.setting(i % 3);
        x.refusal(20, i % 8, 1);
        x.ifPlayed(5, i % 4);
        x.mostAim(20, i % 8);
        x.fits(20, i % 8, 10);
        x.dryIn();
        x.share();
        x.digest();
        x.undo();
    }
}
