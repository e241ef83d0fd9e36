import com.sun.management.ThreadMXBean;
import java.lang.management.ManagementFactory;

/** All calls of one run live in one room: an object is small, and its calls make nothing. */
public final class RoomTest {
    private static final ThreadMXBean THREADS = (ThreadMXBean) ManagementFactory.getThreadMXBean();
    private static final String FULL = "hall long 12 rows 6 nose 9;fog 6;fog 5;fog 1;air 2 left 3;"
            + "speaker a at 0 1;speaker b at 11 6;speaker c at 5 3;speaker d at 5 4;lamp 0 6;lamp 11 1;"
            + "lamp 6 3;member e plain seat 0 far 6 sharp 9 errs 80;member f stable seat 11 far 6 sharp 0 "
            + "errs 99;member g loop seat 6 far 4 sharp 0 errs 1;member h flat seat 11 far 6 sharp 0 errs 7;"
            + "member i loop seat 0 far 5 sharp 0 errs 50;member j plain seat 11 far 1 sharp 0 errs 37";
    private static final int[] TEXT = Check.fives(FULL);
    private static long sum = 0;

    public static void main(String[] args) {
        PaperVote x = null;
        for (int i = 0; i < 20; i++) {
            x = new PaperVote();
            callAll(x);
        }
        long before = THREADS.getThreadAllocatedBytes(Thread.currentThread().getId());
        x = new PaperVote();
        long made = THREADS.getThreadAllocatedBytes(Thread.currentThread().getId());
        callAll(x);
        callAll(x);
        long called = THREADS.getThreadAllocatedBytes(Thread.currentThread().getId());
        System.out.println("an object " + (made - before) + " bytes, its calls " + (called - made)
                + " (sum " + sum + ")");
        if (made - before > 32768 || called - made > 4096) {
            System.out.println("that is too much");
            System.exit(1);
        }
    }

    private static void callAll(PaperVote x) {
        for (int i = 0; i < TEXT.length; i += 5) {
            sum += x.feed(TEXT[i], TEXT[i + 1], TEXT[i + 2], TEXT[i + 3], TEXT[i + 4]);
        }
        sum += x.hall(FULL.length());
        sum += x.winner() + x.counted() + x.hang() + x.thickest() + x.lands(0) + x.votes(1);
        sum += x.likely(0, 0, true) + x.wins(0, true) + x.just(0, 2, true) + x.mean(0, true) + x.favourite();
        sum += x.bestFold(0, 0) + x.bestLikely(0, 0, true) + x.bestSeat(0, 0);
        sum += x.place(0) + x.placeVotes(0) + x.game(0, 0, 1, 1, true) + x.rests(0, 1) + x.rest(0, 1);
        sum += x.airs() + x.could(1) + x.surely(1) + x.toThrow() + x.throwLeaves() + x.judge();
        sum += x.power(0) + x.mighty() + x.rake();
        sum += x.sessions(0, 0, 90) + x.darts(0, 90) + x.lucky(0, 0, 90);
        sum += x.sit(0, 1) && x.fold(0, 1) && x.aim(0, 1) && x.warm(1, 1) && x.stand(0, 1, 1) ? 1 : 0;
        sum += x.image() + x.session() + (x.undo() ? 1 : 0) + (x.back(0) ? 1 : 0) + x.size(12) + x.trouble();
    }
}
