import java.util.ArrayDeque;
import java.util.ArrayList;
import java.util.Deque;
import java.util.List;
import java.util.TreeSet;

/**
 * The document told a second time, with plain lists and whole copies, to compare answers with.
 * It shares nothing with HomeFreed; texts reach it as rules and steps, not as bytes.
 */
final class Model {
    static final int NONE = -1;
    static final int HIDDEN = -1000000;

    static final class Page {
        int kind = NONE;
        int owner = NONE;
        boolean full = false;
        int blocks = 0;
        List<List<Integer>> lists = List.of(new ArrayList<>(), new ArrayList<>(), new ArrayList<>());

        Page copy() {
            Page p = new Page();
            p.kind = kind;
            p.owner = owner;
            p.full = full;
            p.blocks = blocks;
            for (int i = 0; i < 3; i++) {
                p.lists.get(i).addAll(lists.get(i));
            }
            return p;
        }

        int used() {
            return blocks - lists.get(0).size() - lists.get(1).size() - lists.get(2).size();
        }
    }

    /** Everything that acts change. */
    final class World {
        Page[] pages = new Page[pageCount];
        List<List<Integer>> queues = new ArrayList<>();
        List<List<Integer>> outboxes = new ArrayList<>();
        TreeSet<Integer> held = new TreeSet<>();
        boolean[] lives = new boolean[threads];
        int[] gets = new int[threads];
        List<int[]> log = new ArrayList<>();

        World() {
            for (int p = 0; p < pageCount; p++) {
                pages[p] = new Page();
            }
            for (int i = 0; i < threads * sizes.length; i++) {
                queues.add(new ArrayList<>());
            }
            for (int i = 0; i < threads * pageCount; i++) {
                outboxes.add(new ArrayList<>());
            }
            java.util.Arrays.fill(lives, true);
        }

        World copy() {
            World w = new World();
            for (int p = 0; p < pageCount; p++) {
                w.pages[p] = pages[p].copy();
            }
            for (int i = 0; i < queues.size(); i++) {
                w.queues.get(i).addAll(queues.get(i));
            }
            for (int i = 0; i < outboxes.size(); i++) {
                w.outboxes.get(i).addAll(outboxes.get(i));
            }
            w.held.addAll(held);
            w.lives = lives.clone();
            w.gets = gets.clone();
            w.log.addAll(log);
            return w;
        }

        boolean living(int t) {
            return t >= 0 && t < threads && lives[t];
        }

        List<Integer> queue(int t, int k) {
            return queues.get(t * sizes.length + k);
        }

        List<Integer> outbox(int t, int p) {
            return outboxes.get(t * pageCount + p);
        }

        int kindFor(int n) {
            for (int k = 0; k < sizes.length; k++) {
                if (n >= 1 && sizes[k] >= n) {
                    return k;
                }
            }
            return NONE;
        }

        /** On a copy first: what can't be changes nothing. */
        int get(int t, int n) {
            int k = kindFor(n);
            if (k == NONE || !living(t) || copy().tryGet(t, k) == null) {
                return NONE;
            }
            int[] got = tryGet(t, k);
            gets[t]++;
            log.add(0, new int[] {got[0], t, got[1]});
            if (log.size() > 60) {
                log.remove(60);
            }
            if (gets[t] % beat == 0) {
                tick(t);
            }
            return got[0];
        }

        private int[] tryGet(int t, int k) {
            List<Integer> queue = queue(t, k);
            boolean first = true;
            while (!queue.isEmpty()) {
                int p = queue.get(0);
                Page page = pages[p];
                int how = page.lists.get(0).isEmpty() ? page.lists.get(1).isEmpty() ? 2 : 1 : 0;
                int block = serve(p);
                if (block != NONE) {
                    return new int[] {block, first ? how : 3};
                }
                page.full = true;
                queue.remove(0);
                first = false;
            }
            for (int p = 0; p < pageCount; p++) {
                if (pages[p].kind == k && pages[p].owner == NONE && pages[p].used() < pages[p].blocks) {
                    pages[p].owner = t;
                    queue.add(p);
                    return new int[] {serve(p), 4};
                }
            }
            for (int p = 0; p < pageCount; p++) {
                if (pages[p].kind == NONE) {
                    pages[p].kind = k;
                    pages[p].owner = t;
                    pages[p].blocks = units / sizes[k];
                    for (int b = 0; b < pages[p].blocks; b++) {
                        pages[p].lists.get(0).add(b);
                    }
                    queue.add(p);
                    return new int[] {serve(p), 5};
                }
            }
            return null;
        }

        private int serve(int p) {
            List<Integer> ready = pages[p].lists.get(0);
            for (int other = 1; other <= 2 && ready.isEmpty(); other++) {
                ready.addAll(pages[p].lists.get(other));
                pages[p].lists.get(other).clear();
            }
            if (ready.isEmpty()) {
                return NONE;
            }
            int block = 100 * p + ready.remove(0);
            held.add(block);
            return block;
        }

        int free(int t, int block) {
            if (!living(t) || !held.contains(block)) {
                return NONE;
            }
            held.remove(block);
            int p = block / 100;
            Page page = pages[p];
            if (page.owner != t) {
                outbox(t, p).add(0, block % 100);
                if (outbox(t, p).size() < batch) {
                    return 1;
                }
                home(t, p);
                return 2;
            }
            page.lists.get(1).add(0, block % 100);
            List<Integer> queue = queue(t, page.kind);
            if (page.full) {
                page.full = false;
                queue.add(p);
            }
            if (page.used() == 0 && queue.size() > 1) {
                empty(p);
            }
            return 0;
        }

        private int home(int t, int p) {
            List<Integer> box = outbox(t, p);
            int many = box.size();
            pages[p].lists.get(2).addAll(0, box);
            box.clear();
            if (many > 0 && pages[p].kind != NONE && pages[p].owner == NONE && pages[p].used() == 0) {
                empty(p);
            }
            return many;
        }

        private void empty(int p) {
            for (List<Integer> queue : queues) {
                queue.remove((Integer) p);
            }
            pages[p] = new Page();
        }

        int send(int t) {
            int many = 0;
            for (int p = 0; p < pageCount; p++) {
                many += home(t, p);
            }
            return many;
        }

        void tick(int t) {
            send(t);
            for (int p = 0; p < pageCount; p++) {
                Page page = pages[p];
                if (page.owner == t && page.full && !(page.lists.get(1).isEmpty() && page.lists.get(2).isEmpty())) {
                    page.full = false;
                    queue(t, page.kind).add(p);
                }
            }
            for (int p = 0; p < pageCount; p++) {
                Page page = pages[p];
                if (page.owner == t && !page.full && page.used() == 0 && queue(t, page.kind).size() > 1) {
                    empty(p);
                }
            }
        }

        void turn(int t) {
            if (!lives[t]) {
                lives[t] = true;
                return;
            }
            send(t);
            for (int p = 0; p < pageCount; p++) {
                if (pages[p].owner != t) {
                    continue;
                }
                if (pages[p].used() == 0) {
                    empty(p);
                } else {
                    queue(t, pages[p].kind).remove((Integer) p);
                    pages[p].full = false;
                    pages[p].owner = NONE;
                }
            }
            lives[t] = false;
        }

        int pagesOf(int t) {
            int many = 0;
            for (Page p : pages) {
                many += p.owner == t ? 1 : 0;
            }
            return many;
        }

        int inUse() {
            int many = 0;
            for (Page p : pages) {
                many += p.kind != NONE ? 1 : 0;
            }
            return many;
        }
    }

    /** A script on its way: a stack of scopes, each with the numbers of the blocks that were got in it. */
    static final class Way {
        final List<Integer> blocks = new ArrayList<>();
        final List<Integer> getters = new ArrayList<>();
        final List<Boolean> since = new ArrayList<>();
        final Deque<List<Integer>> scopes = new ArrayDeque<>();

        Way() {
            scopes.push(new ArrayList<>());
        }

        boolean step(World w, int[] s, int threads) {
            int t = s[1];
            switch (s[0]) {
                case 0: {
                    int block = w.get(t, s[2]);
                    if (block == NONE) {
                        return false;
                    }
                    scopes.peek().add(blocks.size());
                    blocks.add(block);
                    getters.add(t);
                    since.add(true);
                    return true;
                }
                case 1:
                    if (!w.living(t) || s[2] >= blocks.size() || !since.get(s[2])) {
                        return false;
                    }
                    w.free(t, blocks.get(s[2]));
                    since.set(s[2], false);
                    return true;
                case 2:
                    if (t >= threads) {
                        return false;
                    }
                    w.turn(t);
                    return true;
                case 3:
                case 4:
                    if (!w.living(t)) {
                        return false;
                    }
                    if (s[0] == 3) {
                        w.tick(t);
                    } else {
                        w.send(t);
                    }
                    return true;
                case 5:
                    scopes.push(new ArrayList<>());
                    return true;
                default:
                    leave(w, threads);
                    return true;
            }
        }

        void leave(World w, int threads) {
            List<Integer> in = scopes.pop();
            for (int i = in.size() - 1; i >= 0; i--) {
                int r = in.get(i);
                int by = getters.get(r);
                for (int t = threads - 1; t >= 0 && !w.living(getters.get(r)); t--) {
                    by = w.living(t) ? t : by;
                }
                if (since.get(r) && w.living(by)) {
                    w.free(by, blocks.get(r));
                    since.set(r, false);
                }
            }
        }
    }

    int threads;
    int pageCount;
    int units;
    int batch;
    int beat;
    int[] sizes;
    World now;
    World kept = null;
    final Deque<World> past = new ArrayDeque<>();
    final List<int[][]> scripts = new ArrayList<>();
    final int[] status = new int[4];

    Model(int threads, int pageCount, int units, int batch, int beat, int[] sizes) {
        this.threads = threads;
        this.pageCount = pageCount;
        this.units = units;
        this.batch = batch;
        this.beat = beat;
        this.sizes = sizes;
        now = new World();
    }

    private void act() {
        past.push(now.copy());
        if (past.size() > 40) {
            past.removeLast();
        }
    }

    private int refuse(int why) {
        status[why]++;
        return NONE;
    }

    private boolean isThread(int t) {
        return t >= 0 && t < threads;
    }

    private boolean isBlock(int b) {
        return b >= 0 && b / 100 < pageCount && b % 100 < now.pages[b / 100].blocks;
    }

    int get(int t, int n) {
        if (!isThread(t)) {
            return refuse(0);
        }
        if (n < 1 || n > 40 || now.kindFor(n) == NONE) {
            return refuse(1);
        }
        if (!now.living(t)) {
            return refuse(2);
        }
        if (now.copy().get(t, n) == NONE) {
            return refuse(3);
        }
        act();
        return now.get(t, n);
    }

    int free(int t, int b) {
        if (!isThread(t) || !isBlock(b)) {
            return refuse(0);
        }
        if (!now.living(t) || !now.held.contains(b)) {
            return refuse(2);
        }
        act();
        return now.free(t, b);
    }

    int tick(int t) {
        if (!now.living(t)) {
            return refuse(isThread(t) ? 2 : 0);
        }
        act();
        now.tick(t);
        return now.pagesOf(t);
    }

    int send(int t) {
        if (!now.living(t)) {
            return refuse(isThread(t) ? 2 : 0);
        }
        act();
        return now.send(t);
    }

    int turn(int t) {
        if (!isThread(t)) {
            return refuse(0);
        }
        act();
        now.turn(t);
        return now.lives[t] ? 1 : 0;
    }

    private int runIn(World w, int[][] script) {
        Way way = new Way();
        int done = 0;
        while (done < script.length && way.step(w, script[done], threads)) {
            done++;
        }
        while (way.scopes.size() > 1) {
            way.leave(w, threads);
        }
        return done;
    }

    int perform(int s) {
        if (s < 0 || s >= scripts.size()) {
            return refuse(0);
        }
        act();
        return runIn(now, scripts.get(s));
    }

    int run(int s, int what) {
        if (s < 0 || s >= scripts.size() || what < 0 || what > 2) {
            return NONE;
        }
        World w = now.copy();
        int done = runIn(w, scripts.get(s));
        return what == 0 ? done : what == 1 ? w.inUse() : w.held.size();
    }

    private long x;

    private int draw(int j) {
        x = x * 6364136223846793005L + 1442695040888963407L;
        return (int) ((x >>> 33) % j);
    }

    int years(int n, long seed) {
        if (n < 1 || n > 40) {
            return NONE;
        }
        x = seed;
        for (int i = 0; i < n; i++) {
            act();
            int t = draw(threads);
            if (draw(3) != 2) {
                now.get(t, draw(units) + 1);
            } else if (!now.held.isEmpty()) {
                int which = draw(now.held.size());
                now.free(t, new ArrayList<>(now.held).get(which));
            }
        }
        return now.held.size();
    }

    int undo() {
        if (past.isEmpty()) {
            return NONE;
        }
        now = past.pop();
        return past.size();
    }

    int image() {
        kept = now.copy();
        return now.held.size();
    }

    int back() {
        if (kept == null) {
            return NONE;
        }
        now = kept.copy();
        past.clear();
        return now.held.size();
    }

    int log(int i, int what) {
        return i < 0 || i >= now.log.size() || what < 0 || what > 2 ? NONE : now.log.get(i)[what];
    }

    int page(int p, int what) {
        Page page = now.pages[p];
        switch (what) {
            case 0:
                return page.kind == NONE ? 0 : page.owner == NONE ? 3 : page.full ? 2 : 1;
            case 1:
                return page.owner;
            case 2:
                return page.kind;
            case 3:
                return page.used();
            default:
                return page.lists.get(what - 4).size();
        }
    }

    private static int at(List<Integer> list, int i) {
        return i < 0 || i >= list.size() ? NONE : list.get(i);
    }

    int list(int p, int which, int i) {
        return at(now.pages[p].lists.get(which), i);
    }

    int queue(int t, int k, int i) {
        return at(now.queue(t, k), i);
    }

    int outbox(int t, int p, int i) {
        return at(now.outbox(t, p), i);
    }

    int thread(int t, int what) {
        int out = 0;
        for (int p = 0; p < pageCount; p++) {
            out += now.outbox(t, p).size();
        }
        return what == 0 ? now.lives[t] ? 1 : 0 : what == 1 ? now.pagesOf(t) : what == 2 ? now.gets[t] : out;
    }

    int held(int b) {
        return !isBlock(b) ? NONE : now.held.contains(b) ? 1 : 0;
    }

    int would(int t, int n) {
        World w = now.copy();
        return w.get(t, n) == NONE ? NONE : w.log.get(0)[2];
    }

    int where(int b, int what) {
        if (!isBlock(b)) {
            return NONE;
        }
        if (now.held.contains(b)) {
            return what == 0 ? 0 : NONE;
        }
        int p = b / 100;
        for (int which = 0; which < 3; which++) {
            int place = now.pages[p].lists.get(which).indexOf(b % 100);
            if (place >= 0) {
                return what == 0 ? which + 1 : what == 1 ? place : NONE;
            }
        }
        for (int t = 0; t < threads; t++) {
            int place = now.outbox(t, p).indexOf(b % 100);
            if (place >= 0) {
                int more = batch - now.outbox(t, p).size();
                return what == 0 ? 4 : what == 1 ? place : what == 2 ? t : what == 3 ? more : NONE;
            }
        }
        throw new AssertionError("a block of the model is nowhere");
    }

    int series(int t, int n, int i) {
        if (!now.living(t) || now.kindFor(n) == NONE || i < NONE || i > 99) {
            return NONE;
        }
        World w = now.copy();
        List<Integer> got = new ArrayList<>();
        for (int b = w.get(t, n); b != NONE; b = w.get(t, n)) {
            got.add(b);
        }
        return i == NONE ? got.size() : at(got, i);
    }

    int cheapest(int what) {
        int best = NONE;
        for (int p = 0; p < pageCount; p++) {
            int used = now.pages[p].used();
            best = used > 0 && (best == NONE || used < now.pages[best].used()) ? p : best;
        }
        if (best == NONE || what < 0 || what > 1) {
            return NONE;
        }
        return what == 0 ? best : now.held.subSet(100 * best, 100 * best + 100).size();
    }

    int ways(int one, int other, int what) {
        int many = scripts.size();
        if (one < 0 || other < 0 || one >= many || other >= many || one == other || what < 0 || what > 3) {
            return NONE;
        }
        int[][] a = scripts.get(one);
        int[][] b = scripts.get(other);
        if (a.length > 6 || b.length > 6 || scoped(a) || scoped(b)) {
            return NONE;
        }
        int[] told = {0, 0, 0, 99};
        for (int mask = 0; mask < 1 << (a.length + b.length); mask++) {
            if (Integer.bitCount(mask) != a.length) {
                continue;
            }
            World w = now.copy();
            Way wayA = new Way();
            Way wayB = new Way();
            int i = 0;
            int j = 0;
            boolean can = true;
            while (can && i + j < a.length + b.length) {
                boolean ofA = (mask >> (i + j) & 1) == 1;
                can = ofA ? wayA.step(w, a[i], threads) : wayB.step(w, b[j], threads);
                i += ofA ? 1 : 0;
                j += ofA ? 0 : 1;
            }
            told[0]++;
            told[1] += can ? 1 : 0;
            told[2] = Math.max(told[2], w.inUse());
            told[3] = Math.min(told[3], w.inUse());
        }
        return told[what];
    }

    private static boolean scoped(int[][] script) {
        for (int[] s : script) {
            if (s[0] >= 5) {
                return true;
            }
        }
        return false;
    }

    int shares(int t, int c) {
        int mine = 0;
        int all = 0;
        for (Page p : now.pages) {
            all += p.used();
            mine += p.owner == t ? p.used() : 0;
        }
        return all == 0 ? 0 : c * mine / all;
    }

    int most(int what) {
        int best = 0;
        int sum = 0;
        for (int p = 0; p < pageCount; p++) {
            Page page = now.pages[p];
            int bit = 1 << p;
            switch (what) {
                case 0:
                    best = page.used() > now.pages[best].used() ? p : best;
                    break;
                case 3:
                    sum += page(p, 0) == 3 ? bit : 0;
                    break;
                case 4:
                    sum += page(p, 0) == 0 ? bit : 0;
                    break;
                case 5:
                    sum += page(p, 0) == 2 ? bit : 0;
                    break;
                case 6:
                    sum += page(p, 0) == 1 ? bit : 0;
                    break;
                case 9:
                    sum += page.kind == NONE ? 0 : units - page.used() * sizes[page.kind];
                    break;
                case 10:
                    sum += page.lists.get(2).size();
                    break;
                default:
                    break;
            }
        }
        for (int t = 0; t < threads; t++) {
            if (what == 1) {
                best = now.pagesOf(t) > now.pagesOf(best) ? t : best;
            }
            sum += what == 2 && now.lives[t] ? 1 << t : 0;
            sum += what == 8 ? thread(t, 3) : 0;
        }
        return what < 2 ? best : what == 7 ? now.held.size() : sum;
    }
}
