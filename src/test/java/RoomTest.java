import com.sun.management.ThreadMXBean;
import java.lang.management.ManagementFactory;

/** What a run of 512 of the dearest calls makes stays small: all of it lives in one room. */
public final class RoomTest {
    private static final int CALLS = 512;
    private static final ThreadMXBean BEAN = (ThreadMXBean) ManagementFactory.getThreadMXBean();

    private RoomTest() {
    }

    private interface Step {
        long go(PacketLaw x);
    }

    public static void main(String[] args) {
        Checks.part("room");
        // the first one loads the classes, too
        fill(new PacketLaw());
        long before = made();
        PacketLaw x = new PacketLaw();
        atMost("a new object", 70000, made() - before);
        fill(x);
        run("cheapest", x, y -> y.cheapest(0, 0, -1));
        run("buying", x, y -> y.buying(0, 0, 0, 1));
        run("owes", x, y -> y.owes(0, 0, 0, 0, 3));
        run("pay", x, y -> y.pay(0, 0, 0));
        run("fee", x, y -> y.fee(0, 0, 0));
        run("shyest", x, y -> y.shyest(0));
        run("worth", x, y -> y.worth(0, 0));
        run("feed", x, y -> y.feed(0x66656520, 0x74696e3d, 0x28312b32, 0x293b6665, 0x65207469));
        run("tried", x, y -> y.tried(0, 0, 0));
        run("law", x, y -> y.law(0, 0));
        Checks.end();
    }

    private static long made() {
        return BEAN.getThreadAllocatedBytes(Thread.currentThread().getId());
    }

    private static void atMost(String what, long most, long bytes) {
        Checks.judge(what + " makes " + most + " bytes at most", "true", bytes <= most ? "true" : bytes + " bytes");
    }

    private static void run(String name, PacketLaw x, Step step) {
        step.go(x);
        long before = made();
        for (int i = 0; i < CALLS; i++) {
            step.go(x);
        }
        atMost(CALLS + " times " + name, 20000, made() - before);
    }

    private static void fill(PacketLaw x) {
        for (int m = 0; m < 10; m++) {
            x.maker();
        }
        for (int s = 0; s < 4; s++) {
            x.scheme();
        }
        for (int p = 0; p < 20; p++) {
            x.packet(p / 10);
            x.sold(p, 0, 1000, 0, 1);
            for (int make = 0; make < 5; make++) {
                x.make(p, 1 + make, p, make, 7, 9, 100 - make);
            }
        }
        for (int i = 0; i < 200; i++) {
            x.declare(i % 10, i / 10 % 5, 0, 1000 + i);
        }
        for (int i = 0; i < 60; i++) {
            x.join(i % 10, i % 4, 0);
            x.load(0, 20000, 20, 20, 20, 20, 0);
            x.sample(i % 10, i % 5, 0, 100, i);
        }
        for (int i = 0; i < 12; i++) {
            x.offer(0, 50 + i, 7);
        }
        x.orphans(0, 0, 300);
        Checks.law(x, 0, "fee paper=kilos*share/7+grams;fee glass=max(layers,year)*3;target paper 40;towns paper 55;");
    }
}
