import java.lang.management.ManagementFactory;

/** All calls of a run share one room, so calls must make next to nothing anew. */
public final class RoomTest {
    private static final int CALLS = 500;
    /** What asking for the bytes and the machine's own calls may take. */
    private static final long SLACK_BYTES = 20_000;
    private static final String FULL = "asks 2;person 08 1;person 80 2;person 17 0;person 71 3;person 26 1;person 62 4;"
            + "person 35 0;person 53 2;kin 0 7;door 10 9 9;door 11 9 9;door 12 9 9 1;door 13 9 9;door 14 9 9;"
            + "door 15 9 9;door 16 9 9;door 17 9 9;door 18 9 9;door 19 9 9;slate 01;gap 2;";

    private RoomTest() {
    }

    private static int askAll(TwoHandles x, int i) {
        int sum = x.today(NONE, 0) + x.pair(NONE, i % 10) + x.bound(0) + x.need(1, 1) + x.choose() + x.stranger(NONE, 44, 1);
        sum += x.best(1) + x.twoDays(2) + x.run(i % 4, 5, 0) + x.lot(i % 4, 5, 0, i) + x.rule(3) + x.starved(i % 4);
        sum += x.few(15, 0, 0) + x.few(240, 1, 1) + x.pairs(0, 1) + x.edge(1, 1) + x.once(0) + x.calm(0, 1) + x.slack(0);
        sum += x.firm(i % 8, i % 4, 4) + x.family(i % 8) + x.judge(0) + x.judge(1) + x.image() + x.work(i % 10, 0, 1);
        sum += x.row(1, 0, 0, 1) + x.clear() + x.restore() + x.night(0);
        Check.feed(x, "asks 2;person 0");
        return sum + x.town(15) + x.fault() + x.count(0);
    }

    private static final int NONE = TwoHandles.NONE;

    public static void main(String[] args) {
        com.sun.management.ThreadMXBean bean = (com.sun.management.ThreadMXBean) ManagementFactory.getThreadMXBean();
        TwoHandles x = Check.in(FULL);
        Check c = new Check();
        askAll(x, 0);
        bean.getCurrentThreadAllocatedBytes();
        long before = bean.getCurrentThreadAllocatedBytes();
        int sum = 0;
        for (int i = 0; i < CALLS; i++) {
            sum += askAll(x, i);
        }
        long bytes = bean.getCurrentThreadAllocatedBytes() - before;
        c.holds("calls make " + bytes + " bytes (" + sum + ")", bytes < SLACK_BYTES);
        before = bean.getCurrentThreadAllocatedBytes();
        TwoHandles y = new TwoHandles();
        bytes = bean.getCurrentThreadAllocatedBytes() - before;
        c.holds("a new object takes " + bytes + " bytes (" + y.count(0) + ")", bytes < 20_000);
        c.end("RoomTest");
    }
}
