import java.util.NoSuchElementException;
import java.util.Random;

/** Wrong and extreme arguments in all states: only page may throw, and only what the document names. */
public final class EdgesTest {
    private static final int[] ODD = {
        Integer.MIN_VALUE, Integer.MIN_VALUE + 1, -1000000, -101, -100, -99, -41, -2, -1, 0, 1, 2, 3, 4, 5, 6, 7, 11, 12, 15,
        16, 17, 23, 24, 30, 39, 40, 41, 59, 60, 61, 90, 91, 99, 100, 101, 139, 140, 399, 640, 999, 1000, 1500, 1539, 1540,
        1600, 4095, 65536, 1 << 28, Integer.MAX_VALUE - 1, Integer.MAX_VALUE
    };
    private static final String[] TEXTS = {
        "c", "s", "st4p16u40b9h30;cz1;cz2;cz5;cz9;cz20;cz40", "st1p1u4b1h1;cz4", "st3p2u8b2h3;cz2;cz4", "g0:1;f0:0",
        "(;g1:2;x0;x1;)", "g0:1;g1:1;k0;m1;x1;f0:1", "(;(;(;g0:1;g1:2;g9:1;)", "x0;x1;x2;x3;x0", "cz41", "   ", "c;c"
    };
    private static final Check CHECK = new Check();

    public static void main(String[] args) {
        for (int seed = 0; seed < 400; seed++) {
            run(seed);
        }
        CHECK.close("EdgesTest");
    }

    private static void run(int seed) {
        Random draw = new Random(seed);
        HomeFreed x = new HomeFreed();
        for (int call = 0; call < 600; call++) {
            int which = draw.nextInt(45);
            String told = "seed " + seed + " call " + call + " of sort " + which;
            try {
                answer(draw, x, which);
            } catch (NoSuchElementException e) {
                CHECK.same(told + " throws", which, 6);
            } catch (RuntimeException e) {
                CHECK.same(told + " throws " + e, 1, 0);
            }
        }
        CHECK.same("blocks that are lost", Math.max(0, x.most(11)), 0);
    }

    private static int odd(Random draw) {
        return draw.nextInt(3) == 0 ? ODD[draw.nextInt(ODD.length)] : draw.nextInt(5) - (draw.nextInt(9) == 0 ? 1 : 0);
    }

    private static int answer(Random draw, HomeFreed x, int which) {
        int a = odd(draw);
        int b = odd(draw);
        int c = odd(draw);
        switch (which) {
            case 0: return x.feed(draw.nextInt(), draw.nextInt(), a, b, c);
            case 1: return x.end(a) ? 1 : 0;
            case 2: return x.fault(a);
            case 3: return x.text(a);
            case 4: return x.rule(a);
            case 5: return x.size(a);
            case 6: return x.page(a, b);
            case 7: return x.list(a, b, c);
            case 8: return x.thread(a, b);
            case 9: return x.queue(a, b, c);
            case 10: return x.outbox(a, b, c);
            case 11: return x.held(a);
            case 12: return x.get(a, b);
            case 13: return x.free(a, b);
            case 14: return x.tick(a);
            case 15: return x.send(a);
            case 16: return x.turn(a);
            case 17: return x.perform(a);
            case 18: return x.years(a, draw.nextLong());
            case 19: return x.status(a);
            case 20: return x.undo();
            case 21: return x.log(a, b);
            case 22: return x.step(a, b, c);
            case 23: return x.waste(a);
            case 24: return x.classes(a, b);
            case 25: return x.would(a, b);
            case 26: return x.where(a, b);
            case 27: return x.series(a, b, c);
            case 28: return x.cheapest(a);
            case 29: return x.run(a, b);
            case 30: return x.ways(a, b, c);
            case 31: return x.shares(a, b);
            case 32: return x.most(a);
            case 33: return x.image();
            case 34: return x.back();
            case 35: return x.count(a);
            case 36:
            case 37: return Check.tell(x, TEXTS[draw.nextInt(TEXTS.length)], draw.nextInt(2));
            default: return x.get(draw.nextInt(4), 1 + draw.nextInt(5));
        }
    }
}
