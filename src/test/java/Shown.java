import java.util.ArrayList;
import java.util.List;
import java.util.NoSuchElementException;

/** What an object shows of itself, as rows and as one text: two objects that show the same are in the same state. */
final class Shown {
    static final int THROWN = Integer.MIN_VALUE;

    private Shown() {
    }

    /** THROWN: it throws NoSuchElementException; anything else that is thrown goes through. */
    static int pageOf(HomeFreed x, int page, int what) {
        try {
            return x.page(page, what);
        } catch (NoSuchElementException e) {
            return THROWN;
        }
    }

    private interface At {
        int at(int i);
    }

    private static int[] row(At of) {
        List<Integer> all = new ArrayList<>();
        for (int i = 0; of.at(i) != HomeFreed.NONE; i++) {
            all.add(of.at(i));
        }
        return all.stream().mapToInt(Integer::intValue).toArray();
    }

    static int[] list(HomeFreed x, int page, int which) {
        return row(i -> x.list(page, which, i));
    }

    static int[] queue(HomeFreed x, int thread, int kind) {
        return row(i -> x.queue(thread, kind, i));
    }

    static int[] outbox(HomeFreed x, int thread, int page) {
        return row(i -> x.outbox(thread, page, i));
    }

    static int[] logged(HomeFreed x, int what) {
        return row(i -> x.log(i, what));
    }

    static int[] page(HomeFreed x, int page) {
        int[] all = new int[7];
        for (int what = 0; what < 7; what++) {
            all[what] = pageOf(x, page, what);
        }
        return all;
    }

    static int[] thread(HomeFreed x, int thread) {
        return new int[] {x.thread(thread, 0), x.thread(thread, 1), x.thread(thread, 2), x.thread(thread, 3)};
    }

    static int[] status(HomeFreed x) {
        return new int[] {x.status(0), x.status(1), x.status(2), x.status(3)};
    }

    /** All that an IMAGE keeps. */
    static String heap(HomeFreed x) {
        StringBuilder all = new StringBuilder();
        for (int p = 0; p < x.rule(1); p++) {
            tell(all, "page " + p, page(x, p));
            for (int which = 0; which < 3; which++) {
                tell(all, " list " + which, list(x, p, which));
            }
            for (int t = 0; t < x.rule(0); t++) {
                tell(all, " outbox " + t, outbox(x, t, p));
            }
            int page = p;
            tell(all, " held", row(i -> x.held(100 * page + i)));
        }
        for (int t = 0; t < x.rule(0); t++) {
            tell(all, "thread " + t, thread(x, t));
            for (int k = 0; k < x.count(0); k++) {
                tell(all, " queue " + k, queue(x, t, k));
            }
        }
        for (int what = 0; what < 3; what++) {
            tell(all, "log " + what, logged(x, what));
        }
        return all.toString();
    }

    /** All but STATUS. */
    static String whole(HomeFreed x) {
        StringBuilder all = new StringBuilder(heap(x));
        for (int what = 0; what < 12; what++) {
            all.append("most ").append(what).append(": ").append(x.most(what)).append('\n');
        }
        for (int what = 0; what < 5; what++) {
            all.append("rule ").append(what).append(": ").append(x.rule(what)).append('\n');
            all.append("count ").append(what).append(": ").append(x.count(what)).append('\n');
        }
        tell(all, "sizes", row(x::size));
        for (int s = 0; s < x.count(1); s++) {
            for (int i = 0; x.step(s, i, 0) != HomeFreed.HIDDEN; i++) {
                tell(all, "step " + s, new int[] {x.step(s, i, 0), x.step(s, i, 1), x.step(s, i, 2)});
            }
        }
        all.append("faults ").append(x.fault(0)).append(' ').append(x.fault(1)).append('\n');
        return all.toString();
    }

    private static void tell(StringBuilder all, String what, int[] numbers) {
        all.append(what).append(':');
        for (int n : numbers) {
            all.append(' ').append(n);
        }
        all.append('\n');
    }
}
