import java.lang.management.ManagementFactory;
import java.util.Random;

/** All calls of a run share one room: an object is small, and its calls make nothing new. */
public final class RoomTest {
    private static final String TEXT = "every u:p(u);some v:p(v);not;every w:p(w);some x:p(x);not;q(u,v)";
    private static final long BYTES_OF_OBJECT = 120_000;
    private static final long BYTES_OF_CALLS = 20_000;

    public static void main(String[] args) {
        useAll(new ScopeLister());
        long start = allocated();
        ScopeLister lister = new ScopeLister();
        long made = allocated();
        useAll(lister);
        long used = allocated();
        boolean isSmall = made - start < BYTES_OF_OBJECT && used - made < BYTES_OF_CALLS;
        System.out.println("an object: " + (made - start) + " bytes, its calls: " + (used - made) + " bytes");
        Script.exit(isSmall ? 0 : 1);
    }

    private static long allocated() {
        com.sun.management.ThreadMXBean threads =
                (com.sun.management.ThreadMXBean) ManagementFactory.getThreadMXBean();
        return threads.getThreadAllocatedBytes(Thread.currentThread().getId());
    }

    /** Fewer than the 512 calls of an object, the dearest ones among them. */
    private static void useAll(ScopeLister lister) {
        Random random = new Random(7);
        for (int k = 0; k < TEXT.length(); k++) {
            lister.type(TEXT.charAt(k));
        }
        lister.readSentence();
        int readings = lister.readings();
        for (int k = 0; k < 25; k++) {
            int reading = random.nextInt(readings);
            lister.place(reading, k % 11);
            lister.plug(reading, 0, k % 2);
            lister.above(reading, k % 11);
            lister.polarity(reading, k % 11);
            lister.countBelow(0, 2);
            lister.nextBelow(reading, 2, 0);
            lister.formulaChar(reading, k);
            lister.entails(reading, k);
            lister.classOf(reading);
            lister.isWeak(reading);
            lister.setFact(k % 2, k % 2, 0, k % 3 == 0);
            lister.trueReadings();
            lister.nextDifferent(k);
            lister.fingerprint();
            lister.constrain(0, 1, 2);
            lister.classes();
            lister.release();
        }
        lister.strongest();
        lister.setDomain(3);
    }
}
