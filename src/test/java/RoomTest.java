import java.lang.management.ManagementFactory;

/** Calls make no objects: all rows are made with the object, which is small. */
public final class RoomTest {
    private static final com.sun.management.ThreadMXBean THREADS =
        (com.sun.management.ThreadMXBean) ManagementFactory.getThreadMXBean();

    public static void main(String[] args) {
        Due due = new Due();
        due.promise("room");
        long own = Thread.currentThread().getId();
        ChainChoice[] objects = new ChainChoice[100];
        objects[0] = new ChainChoice();
        calls(objects[0]);
        long start = THREADS.getThreadAllocatedBytes(own);
        for (int i = 1; i < objects.length; i++) {
            objects[i] = new ChainChoice();
        }
        long made = (THREADS.getThreadAllocatedBytes(own) - start) / 99;
        System.out.println("an object takes " + made + " bytes");
        due.yes("an object is small", made < 64_000);
        start = THREADS.getThreadAllocatedBytes(own);
        for (int i = 1; i < objects.length; i++) {
            calls(objects[i]);
        }
        long used = THREADS.getThreadAllocatedBytes(own) - start;
        System.out.println("calls on 99 objects took " + used + " bytes");
        due.yes("calls take no room", used < 64_000);
        due.end();
    }

    private static void calls(ChainChoice x) {
        for (int kind = 1; kind <= 4; kind++) {
            x.packer(kind);
        }
        x.filter(1, 1);
        x.filter(2, 0);
        x.filter(3, 2);
        x.filter(4, 77);
        for (int how = 1; how < 4; how++) {
            x.clear();
            x.fill(300, how, how);
            x.choose(Integer.MAX_VALUE, Integer.MAX_VALUE);
            x.learn();
            for (int k = 0; k < x.chains(); k += 3) {
                x.pack(k);
                x.unpack();
                x.alter(how + k, k);
                x.unpack();
            }
        }
    }
}
