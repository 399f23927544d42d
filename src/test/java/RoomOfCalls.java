import java.lang.management.ManagementFactory;

/** All calls of a run live in one room, so calls make no objects: the rows are the constructor's. */
public final class RoomOfCalls {
    private static final Due DUE = new Due();
    private static final long SPARE = 65_536;

    public static void main(String[] args) {
        TopicSeams x = Due.of("fish fished sea. sea ships. ship dog. dogs. cat. a b c. a. b. c c. d e. f. a.");
        DUE.is("the text is well", x.count(1), 12);
        askAll(x, 3);
        long before = allocated();
        askAll(x, 80);
        long made = allocated() - before;
        DUE.holds("four hundred calls made " + made + " bytes of objects", made < SPARE);
        before = allocated();
        TopicSeams y = new TopicSeams();
        made = allocated() - before;
        DUE.holds("an object takes " + made + " bytes", made < SPARE);
        DUE.is("it is new", y.count(0), 0);
        DUE.end();
    }

    private static void askAll(TopicSeams x, int rounds) {
        for (int i = 0; i < rounds; i++) {
            x.undo();
            x.type('.');
            x.sheet(i % 4, i % 3, 60);
            x.write(1 + i % 8, i % 4);
            x.digest();
        }
    }

    private static long allocated() {
        var threads = (com.sun.management.ThreadMXBean) ManagementFactory.getThreadMXBean();
        return threads.getCurrentThreadAllocatedBytes();
    }
}
