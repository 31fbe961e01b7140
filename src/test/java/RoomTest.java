import java.lang.management.ManagementFactory;

/** All calls of a run live in one room: no call makes an object or an array. */
public final class RoomTest {
    private static final Check CHECK = new Check();

    private static long room() {
        var threads = (com.sun.management.ThreadMXBean) ManagementFactory.getThreadMXBean();
        return threads.getThreadAllocatedBytes(Thread.currentThread().getId());
    }

    private static VectorShelf fullShelf() {
        VectorShelf s = new VectorShelf();
        for (int i = 0; i < 4; i++) s.cell(100 * i, -50 * i, 0);
        for (int i = 0; i < 12; i++) s.vector(i * i, 3 * i, -i, i);
        s.image();
        return s;
    }

    private static int dearCalls(VectorShelf s, int i) {
        String text = "fits x < 5 or not tag = 2;adds tag*2;";
        int sum = s.near(5, 5) + s.within(900, 1) + s.friend(3, 1) + s.pair(2) + s.two(2) + s.spread(11);
        sum += s.cover(300, 1) + s.rounds(1) + s.goes(0, 1) + (int) s.costs(0) + (int) s.lot(i, 20, 2, 0);
        sum += s.film(0, 12) + s.tells(0, 1) + s.tells(0, 2) + s.tells(0, 3) + s.tells(0, 4);
        sum += s.sheet(1, 0, 40) + s.sheet(2, 1, 40) + s.ask(1, 0) + s.code(2, 2, 0) + s.copy(1, 0, 1, 5, 20);
        for (int n = 0; n < text.length(); n++) s.feed(text.charAt(n));
        sum += s.text() + s.image() + s.back() + s.centre() + s.tidy(0) + s.query(i, i, i) + s.rank(4) + s.count(6);
        return sum;
    }

    public static void main(String[] args) {
        VectorShelf s = fullShelf();
        dearCalls(s, 0);
        long before = room();
        for (int i = 0; i < 10; i++) dearCalls(s, i);
        long made = room() - before;
        CHECK.due("a few bytes at most: " + made, made < 20000 ? 1 : 0, 1);
        before = room();
        VectorShelf t = fullShelf();
        made = room() - before;
        CHECK.due("a new one, small: " + made, made < 40000 && t.count(0) == 12 ? 1 : 0, 1);
        CHECK.end();
    }
}
