import java.lang.management.ManagementFactory;
import java.util.Random;

/** All calls of a run share one room: an object is small, and its calls make nothing new. */
public final class RoomTest {
    private static final String TEXT = "every u:p(u);some v:p(v);not;every w:p(w);some x:p(x);not;q(u,v)";
    private static final long BYTES_OF_OBJECT = 120_000;
    private static final long BYTES_OF_CALLS = 20_000;

    public static void main(String[] args) {
        useAll(new ScopeLister(), 1);
        long start = allocated();
        ScopeLister lister = new ScopeLister();
        long made = allocated();
        useAll(lister, 3);
        long used = allocated();
        boolean isSmall = made - start < BYTES_OF_OBJECT && used - made < BYTES_OF_CALLS;
        System.out.println("an object: " + (made - start) + " bytes, its calls: " + (used - made) + " bytes");
        Script.exit(isSmall ? 0 : 1);
    }

    private static long allocated() {
        com.sun.management.ThreadMXBean threads =
                (com.sun.management.ThreadMXBean) ManagementFactory.getThreadMXBean();
        return threads.getThreadAllocatedBytes(Thread.currentThread().getId());
    }

    private static void useAll(ScopeLister lister, int rounds) {
        Random random = new Random(7);
        for (int round = 0; round < rounds; round++) {
            for (int k = 0; k < TEXT.length(); k++) {
                lister.type(TEXT.charAt(k));
            }
            lister.readSentence();
            for (int k = 0; k < 20; k++) {
                int reading = random.nextInt(lister.readings());
                lister.place(reading, k % 11);
                lister.plug(reading, 0, k % 2);
                lister.above(reading, k % 11);
                lister.polarity(reading, k % 11);
                lister.countBelow(0, 2);
                lister.nextBelow(reading, 2, 0);
                lister.formulaChar(reading, k);
                lister.entails(reading, k);
                lister.classOf(reading);
                lister.isWeak(reading);
                lister.setFact(k % 2, k % 2, 0, k % 3 == 0);
                lister.trueReadings();
                lister.nextDifferent(k);
                lister.fingerprint();
            }
            lister.constrain(0, 1, 2);
            lister.classes();
            lister.strongest();
            lister.release();
            lister.setDomain(3);
        }
    }
}
