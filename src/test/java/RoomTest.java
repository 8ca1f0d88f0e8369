import com.sun.management.ThreadMXBean;
import java.lang.management.ManagementFactory;

/** The room of a run: an object and 512 of each dearest call make few objects and elements. */
public final class RoomTest {
    private static final Check CHECK = new Check("RoomTest");

    /** 600,000 objects of at least 16 bytes, and 7.3 million elements of at least 4 bytes. */
    private static final long BYTES = 600_000L * 16 + 7_300_000L * 4;

    private interface Call {
        void on(SeriesBench x);
    }

    public static void main(String[] args) {
        room("digest", x -> x.digest());
        room("random", x -> x.random(0, 12, 5));
        room("setStep", x -> x.setStep(0, 1, 11, 11, 5));
        room("weight", x -> x.weight(0, 1000000));
        room("powerWeight", x -> x.powerWeight(0, 1000000, 200));
        room("total", x -> x.total(0, 2000));
        room("support", x -> x.support(0, 4095));
        room("first", x -> x.first(0));
        room("combine", x -> x.combine(3, 1, 2, 1));
        room("derive", x -> x.derive(3, 0, 6));
        room("dimension", x -> x.dimension(0, 2));
        room("basisWord", x -> x.basisWord(0, 11));
        room("differing", x -> x.differing(0, 3));
        room("hankelRank", x -> x.hankelRank(0, 31));
        room("recurs", x -> x.recurs(0, 12));
        room("inverse", x -> x.inverse(10006));
        room("parse", x -> x.parse(3));
        room("append in a full text", x -> Check.answer(() -> x.append('a')));
        room("a refused combine", x -> Check.answer(() -> x.combine(3, 0, 0, 1)));
        CHECK.end();
    }

    private static void room(String what, Call call) {
        ThreadMXBean threads = (ThreadMXBean) ManagementFactory.getThreadMXBean();
        long before = threads.getThreadAllocatedBytes(Thread.currentThread().getId());
        SeriesBench x = new SeriesBench();
        x.random(0, 12, 4);
        x.random(1, 3, 5);
        x.random(2, 4, 6);
        x.random(3, 12, 7);
        for (char sign : "ab*a*b*a*b*a*b*a*b*a*+(0a)+(0b)+(0a)+(0b)+(0a)+(0b)+(0a)+(0)".toCharArray()) {
            Check.answer(() -> x.append(sign));
        }
        for (int k = 0; k < 512 - 64; k++) {
            call.on(x);
        }
        long used = threads.getThreadAllocatedBytes(Thread.currentThread().getId()) - before;
        CHECK.due("the room of 512 calls, with " + what + ", in bytes: " + used, true, () -> used < BYTES);
    }
}
