import java.util.ArrayList;
import java.util.List;
import java.util.Random;

/** Runs of drawn calls, each answer compared with that of the Model. */
public final class DrawnRunsTest {
    private static final Check CHECK = new Check();

    public static void main(String[] args) {
        for (int seed = 0; seed < 700 && CHECK.wrongs() == 0; seed++) {
            run(seed);
        }
        CHECK.close("DrawnRunsTest");
    }

    private static int[] drawnSizes(Random draw, int units) {
        int most = Math.min(6, units);
        java.util.TreeSet<Integer> sizes = new java.util.TreeSet<>();
        int many = 1 + draw.nextInt(most);
        while (sizes.size() < many) {
            sizes.add(1 + draw.nextInt(draw.nextBoolean() ? Math.min(6, units) : units));
            many = Math.min(many, sizes.size() + (draw.nextInt(4) == 0 ? 0 : 1));
        }
        return sizes.stream().mapToInt(Integer::intValue).toArray();
    }

    private static String drawnStep(Random draw, int[] into, int threads, int gets, int size) {
        into[0] = draw.nextInt(10);
        into[0] = into[0] < 5 ? 0 : into[0] < 7 ? 1 : into[0] - 5;
        into[1] = draw.nextInt(30) == 0 ? 9 : draw.nextInt(threads);
        into[2] = into[0] == 0 ? 1 + draw.nextInt(Math.min(40, size + draw.nextInt(2)))
                : into[0] == 1 ? draw.nextInt(Math.min(24, gets + 1)) : -1;
        String blank = draw.nextInt(12) == 0 ? " " : "";
        String told = "gfxkm".charAt(into[0]) + blank + into[1];
        return into[2] < 0 ? told : told + ":" + blank + into[2];
    }

    private static void addScript(Random draw, HomeFreed x, Model m, boolean small) {
        List<int[]> steps = new ArrayList<>();
        StringBuilder text = new StringBuilder();
        int many = 1 + draw.nextInt(small ? 6 : 24);
        int open = 0;
        int gets = 0;
        int size = m.sizes[m.sizes.length - 1];
        while (steps.size() < many) {
            int[] step = {0, -1, -1};
            String told;
            int left = many - steps.size();
            if (!small && open > 0 && (left <= open || draw.nextInt(4) == 0)) {
                step[0] = 6;
                told = ")";
                open--;
            } else if (!small && open < 6 && left > open + 1 && draw.nextInt(4) == 0) {
                step[0] = 5;
                told = "(";
                open++;
            } else {
                told = drawnStep(draw, step, m.threads, gets, size);
                gets += step[0] == 0 ? 1 : 0;
            }
            text.append(steps.isEmpty() ? "" : ";").append(told);
            steps.add(step);
        }
        int number = Check.tell(x, text.toString(), 1);
        CHECK.same("text(1) of " + text, number, m.scripts.size());
        m.scripts.add(steps.toArray(new int[0][]));
        for (int i = 0; i < steps.size(); i++) {
            for (int what = 0; what < 3; what++) {
                CHECK.same("step of " + text, x.step(number, i, what), steps.get(i)[what]);
            }
        }
    }

    private static void run(int seed) {
        Random draw = new Random(seed);
        int threads = 1 + draw.nextInt(4);
        int pages = 1 + draw.nextInt(draw.nextBoolean() ? 4 : 16);
        int units = 4 + draw.nextInt(draw.nextBoolean() ? 8 : 37);
        int batch = 1 + draw.nextInt(draw.nextBoolean() ? 3 : 9);
        int beat = 1 + draw.nextInt(30);
        int[] sizes = drawnSizes(draw, units);
        StringBuilder arena = new StringBuilder();
        arena.append("st").append(threads).append('p').append(pages).append('u').append(units);
        arena.append('b').append(batch).append('h').append(beat);
        for (int size : sizes) {
            arena.append(";cz").append(size);
        }
        HomeFreed x = new HomeFreed();
        CHECK.same("text(0) of " + arena, Check.tell(x, arena.toString(), 0), sizes.length);
        Model m = new Model(threads, pages, units, batch, beat, sizes);
        for (int i = 0; i < 4; i++) {
            addScript(draw, x, m, i < 2);
        }
        for (int call = 0; call < 90 && CHECK.wrongs() == 0; call++) {
            String told = "seed " + seed + " " + arena + " call " + call + " " + act(draw, x, m);
            compare(told, x, m, call % 9 == 0);
            ask(draw, told, x, m);
        }
    }

    private static String act(Random draw, HomeFreed x, Model m) {
        int t = draw.nextInt(25) == 0 ? draw.nextInt(6) - 1 : draw.nextInt(m.threads);
        int most = m.sizes[m.sizes.length - 1];
        int n = draw.nextInt(20) == 0 ? draw.nextInt(45) - 2 : 1 + draw.nextInt(most);
        int which = draw.nextInt(100);
        if (which < 40) {
            CHECK.same("get(" + t + ", " + n + ")", x.get(t, n), m.get(t, n));
            return "get";
        }
        if (which < 68) {
            int b = drawnBlock(draw, m);
            CHECK.same("free(" + t + ", " + b + ")", x.free(t, b), m.free(t, b));
            return "free";
        }
        if (which < 72) {
            CHECK.same("tick(" + t + ")", x.tick(t), m.tick(t));
            return "tick";
        }
        if (which < 76) {
            CHECK.same("send(" + t + ")", x.send(t), m.send(t));
            return "send";
        }
        if (which < 81) {
            CHECK.same("turn(" + t + ")", x.turn(t), m.turn(t));
            return "turn";
        }
        if (which < 86) {
            int s = draw.nextInt(20) == 0 ? draw.nextInt(7) - 1 : draw.nextInt(4);
            CHECK.same("perform(" + s + ")", x.perform(s), m.perform(s));
            return "perform " + s;
        }
        if (which < 90) {
            int times = draw.nextInt(43) - 1;
            long seed = draw.nextLong();
            CHECK.same("years(" + times + ", " + seed + ")", x.years(times, seed), m.years(times, seed));
            return "years";
        }
        if (which < 97) {
            int many = draw.nextInt(10) == 0 ? 45 : 1 + draw.nextInt(3);
            for (int i = 0; i < many; i++) {
                CHECK.same("undo()", x.undo(), m.undo());
            }
            return "undo";
        }
        if (which < 99) {
            CHECK.same("image()", x.image(), m.image());
            return "image";
        }
        CHECK.same("back()", x.back(), m.back());
        return "back";
    }

    private static int drawnBlock(Random draw, Model m) {
        List<Integer> held = new ArrayList<>(m.now.held);
        if (held.isEmpty() || draw.nextInt(12) == 0) {
            return draw.nextInt(100 * m.pageCount + 200) - 50;
        }
        return held.get(draw.nextInt(held.size()));
    }

    private static void compare(String told, HomeFreed x, Model m, boolean whole) {
        for (int p = 0; p < m.pageCount; p++) {
            for (int what = 0; what < 7; what++) {
                CHECK.same(told + " page " + p + " " + what, x.page(p, what), m.page(p, what));
            }
            for (int which = 0; which < 3; which++) {
                int many = m.page(p, 4 + which);
                for (int i = -1; i <= many; i++) {
                    CHECK.same(told + " list " + p + " " + which, x.list(p, which, i), m.list(p, which, i));
                }
            }
        }
        for (int t = 0; t < m.threads; t++) {
            for (int what = 0; what < 4; what++) {
                CHECK.same(told + " thread " + t + " " + what, x.thread(t, what), m.thread(t, what));
            }
            for (int k = 0; k < m.sizes.length; k++) {
                for (int i = -1; i <= m.now.queue(t, k).size(); i++) {
                    CHECK.same(told + " queue " + t + " " + k, x.queue(t, k, i), m.queue(t, k, i));
                }
            }
            for (int p = 0; p < m.pageCount; p++) {
                for (int i = -1; i <= m.now.outbox(t, p).size(); i++) {
                    CHECK.same(told + " outbox " + t + " " + p, x.outbox(t, p, i), m.outbox(t, p, i));
                }
            }
        }
        for (int what = 0; what < 12; what++) {
            CHECK.same(told + " most " + what, x.most(what), m.most(what));
        }
        for (int what = 0; what < 4; what++) {
            CHECK.same(told + " status " + what, x.status(what), m.status[what]);
        }
        CHECK.same(told + " log length", x.count(3), m.now.log.size());
        CHECK.same(told + " acts", x.count(4), m.past.size());
        for (int i = -1; i < (whole ? 61 : 5); i++) {
            for (int what = 0; what < 4; what++) {
                CHECK.same(told + " log " + i + " " + what, x.log(i, what), m.log(i, what));
            }
        }
        for (int b = -1; whole && b < 100 * m.pageCount + 2; b++) {
            CHECK.same(told + " held " + b, x.held(b), m.held(b));
            for (int what = 0; what < 4; what++) {
                CHECK.same(told + " where " + b + " " + what, x.where(b, what), m.where(b, what));
            }
        }
    }

    private static void ask(Random draw, String told, HomeFreed x, Model m) {
        int t = draw.nextInt(m.threads);
        int n = draw.nextInt(43) - 1;
        int c = draw.nextInt(1000);
        CHECK.same(told + " would", x.would(t, n), m.would(t, n));
        CHECK.same(told + " shares", x.shares(t, c), m.shares(t, c));
        for (int what = -1; what < 3; what++) {
            CHECK.same(told + " cheapest " + what, x.cheapest(what), m.cheapest(what));
        }
        int small = 1 + draw.nextInt(m.sizes[m.sizes.length - 1]);
        if (draw.nextInt(4) == 0) {
            CHECK.same(told + " room " + small, x.series(t, small, -1), m.series(t, small, -1));
            int i = draw.nextInt(102);
            CHECK.same(told + " series " + small + " " + i, x.series(t, small, i), m.series(t, small, i));
            int s = draw.nextInt(4);
            for (int what = 0; what < 3; what++) {
                CHECK.same(told + " run " + s, x.run(s, what), m.run(s, what));
            }
        }
        if (draw.nextInt(40) == 0) {
            int one = draw.nextInt(4);
            int other = draw.nextInt(4);
            for (int what = 0; what < 4; what++) {
                CHECK.same(told + " ways " + one + " " + other, x.ways(one, other, what), m.ways(one, other, what));
            }
        }
        compare(told + " and asked", x, m, false);
    }
}
