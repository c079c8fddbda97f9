import com.sun.management.ThreadMXBean;
import java.lang.management.ManagementFactory;

/** How much room the calls take: all calls of one run live in one room, so what is kept ready isn't made again. */
public final class RoomTest extends Sentences {
    static final ThreadMXBean THREADS = (ThreadMXBean) ManagementFactory.getThreadMXBean();
    static final int NEW_OBJECT = 8192;
    static final int HELD_FIT = 64;
    /** An exception holds where it was thrown. */
    static final int THROWN = 4096;
    static final int NOTHING = 0;

    interface Call {
        long take();
    }

    /** The least of several measurements: the first ones may load what the machine needs. */
    static long bytesOf(Call call) {
        long least = Long.MAX_VALUE;
        for (int i = 0; i < 5; i++) {
            long before = THREADS.getCurrentThreadAllocatedBytes();
            call.take();
            least = Math.min(least, THREADS.getCurrentThreadAllocatedBytes() - before);
        }
        return least;
    }

    static void takes(String name, Call call, long most) {
        long bytes = bytesOf(call);
        due(name + " took " + bytes + " bytes; within " + most, bytes <= most ? 1 : 0, 1);
    }

    static void markets(FurrowFair x) {
        takes("market", () -> x.market(7), NOTHING);
        takes("market refused", () -> x.market(6), NOTHING);
        takes("sort", () -> x.sort(0, 1), NOTHING);
        takes("mark", () -> x.mark(0, 1), NOTHING);
        takes("change", () -> x.change(0, 0, 10), NOTHING);
        takes("cost", () -> x.cost(1, 0, 11), NOTHING);
        takes("think", () -> x.think(0, -1), NOTHING);
    }

    static void fits(FurrowFair x) {
        takes("pay", () -> x.pay(430, 3, 0), NOTHING);
        takes("gets", () -> x.gets(430, 3, 0), NOTHING);
        takes("rather", () -> x.rather(624), NOTHING);
        takes("next", () -> x.next(430), NOTHING);
        takes("all", () -> x.all(2), NOTHING);
        takes("falls", () -> x.falls(0), NOTHING);
        takes("barred", () -> x.barred(0, 1, 0), NOTHING);
        takes("lots", () -> x.lots(0, 3, 1, 0), NOTHING);
        takes("apart", () -> x.apart(), NOTHING);
        takes("justNot", () -> x.justNot(430), NOTHING);
        takes("waste", () -> x.waste(430), NOTHING);
        takes("gain", () -> x.gain(430, 3, 0, 0), NOTHING);
        takes("inOne", () -> x.inOne(0, 1), NOTHING);
        takes("bars", () -> x.bars(5), NOTHING);
        takes("leastBar", () -> x.leastBar(0), NOTHING);
    }

    static void lines(FurrowFair x) {
        takes("makes", () -> x.makes(1, 0), NOTHING);
        takes("loses", () -> x.loses(1), NOTHING);
        takes("broken", () -> x.broken(1), NOTHING);
    }

    static void edges(FurrowFair x) {
        takes("edge", () -> x.edge(430, 3, 3), NOTHING);
        takes("run", () -> x.run(430, 99, 1, 0), NOTHING);
        takes("rate", () -> x.rate(10), NOTHING);
        takes("years", () -> x.years(430, 3, 12, 0), NOTHING);
        takes("ratherOver", () -> x.ratherOver(430, 12), NOTHING);
        takes("bestTax", () -> x.bestTax(3, 0), NOTHING);
        takes("moved", () -> x.moved(430, 3, 0), NOTHING);
        takes("losers", () -> x.losers(430, 0), NOTHING);
        takes("standing", () -> x.standing(), NOTHING);
    }

    static void shelves(FurrowFair x) {
        takes("image", () -> x.image(), NOTHING);
        takes("restore", () -> x.restore(), NOTHING);
        takes("count", () -> x.count(4), NOTHING);
        takes("row", () -> x.row(2, 2, 120), NOTHING);
        takes("put", () -> x.put(2, 119, 7), NOTHING);
        takes("element", () -> x.element(2, 119), NOTHING);
        takes("copy", () -> x.copy(2, 0, 2, 1, 119), NOTHING);
        for (int kind = 0; kind < 6; kind++) {
            int k = kind;
            takes("keep of kind " + k, () -> x.keep(3, 1, k, 430), HELD_FIT);
            takes("breadth of kind " + k, () -> x.breadth(3), NOTHING);
        }
        takes("toss", () -> x.toss(3), THROWN);
        takes("element refused", () -> element(x, 2, 120), THROWN);
        takes("toss without a failure", () -> x.toss(5), NOTHING);
        takes("keep nothing", () -> x.keep(3, 0, 0, 0), NOTHING);
    }

    public static void main(String[] args) {
        said("What it is", "An object is used for at most 512 calls", () -> {
            FurrowFair x = fair(FULL);
            line(x, 1, 10, 20, 30, 40);
            x.keep(5, 1, 3, 0);
            takes("a new object", () -> new FurrowFair().count(0), NEW_OBJECT);
            markets(x);
            fits(x);
            lines(x);
            edges(x);
            shelves(x);
        });
        end();
    }
}
