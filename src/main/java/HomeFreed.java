import java.util.Arrays;
import java.util.NoSuchElementException;

/** An allocator of many threads by messages. The words in capitals are the document's (../shared/DOC.md). */
public final class HomeFreed {
    public static final int NONE = -1;
    public static final int HIDDEN = -1000000;

    private static final int MOST_THREADS = 4;
    private static final int MOST_PAGES = 16;
    private static final int MOST_UNITS = 40;
    private static final int MOST_CLASSES = 6;
    private static final int MOST_SCRIPTS = 4;
    private static final int MOST_STEPS = 24;
    private static final int MOST_SCOPES = 6;
    private static final int MOST_BYTES = 240;
    private static final int MOST_ACTS = 40;
    private static final int MOST_LOGGED = 60;
    private static final int MOST_YEARS = 40;
    private static final int MOST_SERIES = 100;
    private static final int MOST_MIXED_STEPS = 6;
    private static final int BLOCKS_OF_PAGE = 100;

    private static final int THREADS = 0;
    private static final int PAGES = 1;
    private static final int UNITS = 2;
    private static final int BATCH = 3;
    private static final int BEAT = 4;
    private static final String RULE_LETTERS = "tpubh";
    private static final int[] RULE_LEAST = {1, 1, 4, 1, 1};
    private static final int[] RULE_MOST = {4, 16, 40, 9, 30};
    private static final int[] RULE_USUAL = {2, 6, 16, 3, 8};
    private static final String CLASS_LETTERS = "z";
    private static final int[] CLASS_LEAST = {1};
    private static final int[] CLASS_MOST = {40};

    private static final String STEP_LETTERS = "gfxkm()";
    private static final int STEP_GET = 0;
    private static final int STEP_FREE = 1;
    private static final int STEP_TURN = 2;
    private static final int STEP_TICK = 3;
    private static final int STEP_OPEN = 5;
    private static final int STEP_CLOSE = 6;

    private static final int READY = 0;
    private static final int LOCAL = 1;
    private static final int FOREIGN = 2;
    private static final int LISTS_OF_PAGE = 3;
    private static final int FIRST_OUTBOX = MOST_PAGES * LISTS_OF_PAGE;
    private static final int ALL_LISTS = FIRST_OUTBOX + MOST_THREADS * MOST_PAGES;

    private static final int PAGE_EMPTY = 0;
    private static final int PAGE_QUEUED = 1;
    private static final int PAGE_FULL = 2;
    private static final int PAGE_ABANDONED = 3;

    private static final int BY_READY = 0;
    private static final int BY_LOCAL = 1;
    private static final int BY_FOREIGN = 2;
    private static final int BY_LATER = 3;
    private static final int BY_ADOPTED = 4;
    private static final int BY_EMPTY = 5;

    private static final int BACK_LOCAL = 0;
    private static final int BACK_OUTBOX = 1;
    private static final int BACK_HOME = 2;

    private static final int NO_SUCH = 0;
    private static final int TOO_LARGE = 1;
    private static final int NOT_LIVE = 2;
    private static final int NO_ROOM = 3;

    private static final int BLANK = 32;
    private static final long DRAW_FACTOR = 6364136223846793005L;
    private static final long DRAW_ADDEND = 1442695040888963407L;

    private final Tape tape;
    private final Reader reader;
    private final Rules rules;
    private final Rules draftRules;
    private final Script[] scripts;
    private int scriptsTold;
    private final Script draftScript;
    private final Heap now;
    private final Past past;
    private final Heap kept;
    private boolean imaged;
    private final int[] refused;
    private final Mixer mixer;
    private final Heap trial;
    private final Progress progress;

    public HomeFreed() {
        tape = new Tape();
        reader = new Reader(tape);
        rules = new Rules();
        draftRules = new Rules();
        scripts = new Script[MOST_SCRIPTS];
        for (int i = 0; i < MOST_SCRIPTS; i++) {
            scripts[i] = new Script();
        }
        scriptsTold = 0;
        draftScript = new Script();
        now = new Heap(rules);
        past = new Past(rules);
        kept = new Heap(rules);
        imaged = false;
        refused = new int[4];
        mixer = new Mixer(rules);
        trial = new Heap(rules);
        progress = new Progress();
    }

    // ---- texts

    public int feed(int a, int b, int c, int d, int e) {
        int more = tape.signsIn(a) + tape.signsIn(b) + tape.signsIn(c) + tape.signsIn(d) + tape.signsIn(e);
        if (tape.length + more > MOST_BYTES) {
            return NONE;
        }
        tape.append(a);
        tape.append(b);
        tape.append(c);
        tape.append(d);
        tape.append(e);
        return tape.length;
    }

    public boolean end(int n) {
        if (n < 0 || n > tape.length) {
            return false;
        }
        tape.length = n;
        return true;
    }

    public int fault(int sort) {
        if (sort == 0) {
            return draftRules.readFrom(reader);
        }
        return sort == 1 ? draftScript.readFrom(reader) : -2;
    }

    public int text(int sort) {
        if (sort == 0) {
            return beginArena();
        }
        return sort == 1 ? addScript() : NONE;
    }

    private int beginArena() {
        if (draftRules.readFrom(reader) != NONE) {
            return NONE;
        }
        rules.copyFrom(draftRules);
        now.makeNew();
        past.forget();
        imaged = false;
        tape.length = 0;
        return rules.kinds;
    }

    private int addScript() {
        if (scriptsTold >= MOST_SCRIPTS || draftScript.readFrom(reader) != NONE) {
            return NONE;
        }
        scripts[scriptsTold].copyFrom(draftScript);
        scriptsTold++;
        tape.length = 0;
        return scriptsTold - 1;
    }

    // ---- what is there

    public int rule(int what) {
        return rules.areTold() && what >= 0 && what < rules.values.length ? rules.values[what] : NONE;
    }

    public int size(int kind) {
        return rules.isKind(kind) ? rules.sizes[kind] : NONE;
    }

    public int page(int page, int what) throws NoSuchElementException {
        if (!now.isPage(page) || what < 0 || what > 6) {
            throw new NoSuchElementException("no such page, or nothing of the kind");
        }
        switch (what) {
            case 0:
                return now.stateOf(page);
            case 1:
                return now.owner[page];
            case 2:
                return now.kind[page];
            case 3:
                return now.usedOf(page);
            default:
                return now.lengthOf(page, what - 4);
        }
    }

    public int list(int page, int which, int i) {
        if (!now.isPage(page) || which < READY || which > FOREIGN) {
            return NONE;
        }
        return now.ownNumber(now.blocks.thingAt(now.listOf(page, which), i));
    }

    public int thread(int thread, int what) {
        if (!now.isThread(thread)) {
            return NONE;
        }
        switch (what) {
            case 0:
                return now.isLiving(thread) ? 1 : 0;
            case 1:
                return now.pagesOf(thread);
            case 2:
                return now.gets[thread];
            case 3:
                return now.outOf(thread);
            default:
                return NONE;
        }
    }

    public int queue(int thread, int kind, int i) {
        if (!now.isThread(thread) || !rules.isKind(kind)) {
            return NONE;
        }
        return now.queues.thingAt(now.queueOf(thread, kind), i);
    }

    public int outbox(int thread, int page, int i) {
        if (!now.isThread(thread) || !now.isPage(page)) {
            return NONE;
        }
        return now.ownNumber(now.blocks.thingAt(now.outboxOf(thread, page), i));
    }

    public int held(int block) {
        if (!now.isBlock(block)) {
            return NONE;
        }
        return now.isHeld(block) ? 1 : 0;
    }

    // ---- acts

    public int get(int thread, int n) {
        if (!now.isThread(thread)) {
            return refuse(NO_SUCH);
        }
        int kind = rules.kindFor(n);
        if (kind == NONE) {
            return refuse(TOO_LARGE);
        }
        if (!now.isLiving(thread)) {
            return refuse(NOT_LIVE);
        }
        if (now.pageFor(thread, kind) == NONE) {
            return refuse(NO_ROOM);
        }
        past.keep(now);
        return now.takeBlock(thread, n);
    }

    public int free(int thread, int block) {
        if (!now.isThread(thread) || !now.isBlock(block)) {
            return refuse(NO_SUCH);
        }
        if (!now.isLiving(thread) || !now.isHeld(block)) {
            return refuse(NOT_LIVE);
        }
        past.keep(now);
        return now.giveBlock(thread, block);
    }

    public int tick(int thread) {
        if (isIdle(thread)) {
            return NONE;
        }
        past.keep(now);
        now.beat(thread);
        return now.pagesOf(thread);
    }

    public int send(int thread) {
        if (isIdle(thread)) {
            return NONE;
        }
        past.keep(now);
        return now.sendAll(thread);
    }

    public int turn(int thread) {
        if (!now.isThread(thread)) {
            return refuse(NO_SUCH);
        }
        past.keep(now);
        now.turnOver(thread);
        return now.isLiving(thread) ? 1 : 0;
    }

    public int perform(int script) {
        if (!rules.areTold() || !isScript(script)) {
            return refuse(NO_SUCH);
        }
        past.keep(now);
        return progress.runWhole(now, scripts[script]);
    }

    public int years(int n, long seed) {
        if (!rules.areTold() || n < 1 || n > MOST_YEARS) {
            return NONE;
        }
        long x = seed;
        for (int i = 0; i < n; i++) {
            x = liveYear(x);
        }
        return now.heldInAll();
    }

    private long liveYear(long seed) {
        past.keep(now);
        long x = stir(seed);
        int thread = drawn(x, rules.values[THREADS]);
        x = stir(x);
        if (drawn(x, 3) < 2) {
            x = stir(x);
            now.takeBlock(thread, drawn(x, rules.values[UNITS]) + 1);
            return x;
        }
        int many = now.heldInAll();
        if (many > 0) {
            x = stir(x);
            now.giveBlock(thread, now.heldAt(drawn(x, many)));
        }
        return x;
    }

    private static long stir(long x) {
        return x * DRAW_FACTOR + DRAW_ADDEND;
    }

    private static int drawn(long x, int many) {
        return many > 0 ? (int) ((x >>> 33) % many) : 0;
    }

    public int status(int what) {
        return what >= 0 && what < refused.length ? refused[what] : NONE;
    }

    public int undo() {
        return past.takeBack(now);
    }

    private int refuse(int why) {
        if (why >= 0 && why < refused.length) {
            refused[why]++;
        }
        return NONE;
    }

    /** Counts the refusal too, as TICK and SEND are refused alike. */
    private boolean isIdle(int thread) {
        if (!now.isThread(thread)) {
            refuse(NO_SUCH);
            return true;
        }
        if (!now.isLiving(thread)) {
            refuse(NOT_LIVE);
            return true;
        }
        return false;
    }

    // ---- what was told

    public int log(int i, int what) {
        if (i < 0 || i >= now.log.length()) {
            return NONE;
        }
        switch (what) {
            case 0:
                return now.log.blockAt(i);
            case 1:
                return now.log.threadAt(i);
            case 2:
                return now.log.howAt(i);
            default:
                return NONE;
        }
    }

    public int step(int script, int i, int what) {
        if (!isScript(script) || i < 0 || i >= scripts[script].steps) {
            return HIDDEN;
        }
        switch (what) {
            case 0:
                return scripts[script].deed[i];
            case 1:
                return scripts[script].by[i];
            case 2:
                return scripts[script].number[i];
            default:
                return HIDDEN;
        }
    }

    private boolean isScript(int script) {
        return script >= 0 && script < scriptsTold;
    }

    // ---- apart from what is now

    public int waste(int n) {
        if (n == 0) {
            return rules.worst();
        }
        int kind = rules.kindFor(n);
        return kind == NONE ? NONE : rules.sizes[kind] - n;
    }

    public int classes(int q, int i) {
        if (!rules.areTold() || q < 0 || q > 90 || i < NONE) {
            return NONE;
        }
        int units = rules.values[UNITS];
        int last = 1;
        int told = 1;
        for (int more = 0; more < MOST_UNITS && last < units && told - 1 != i; more++) {
            last = nextSize(last + 1, q, units);
            told++;
        }
        if (i == NONE) {
            return told;
        }
        return told - 1 == i ? last : NONE;
    }

    private static int nextSize(int n, int q, int units) {
        int greatest = n;
        for (int s = n; s <= units; s++) {
            if (100 * (s - n) <= q * s) {
                greatest = s;
            }
        }
        return greatest;
    }

    public int would(int thread, int n) {
        int kind = rules.kindFor(n);
        if (kind == NONE || !now.isLiving(thread)) {
            return NONE;
        }
        return now.howFrom(thread, now.pageFor(thread, kind));
    }

    public int where(int block, int what) {
        if (!now.isBlock(block)) {
            return NONE;
        }
        int thing = now.thingOf(block);
        int list = now.blocks.home[thing];
        switch (what) {
            case 0:
                return whereIs(list);
            case 1:
                return now.blocks.placeOf(thing);
            case 2:
                return list < FIRST_OUTBOX ? NONE : (list - FIRST_OUTBOX) / MOST_PAGES;
            case 3:
                return list < FIRST_OUTBOX ? NONE : rules.values[BATCH] - now.blocks.many[list];
            default:
                return NONE;
        }
    }

    private static int whereIs(int list) {
        if (list == NONE) {
            return 0;
        }
        return list < FIRST_OUTBOX ? 1 + list % LISTS_OF_PAGE : 4;
    }

    public int series(int thread, int n, int i) {
        if (i < NONE || i >= MOST_SERIES || !now.isLiving(thread) || rules.kindFor(n) == NONE) {
            return NONE;
        }
        trial.copyFrom(now);
        int got = 0;
        // no more BLOCKS can be HELD than there are
        for (int more = 0; more < MOST_PAGES * MOST_UNITS; more++) {
            int block = trial.takeBlock(thread, n);
            if (block == NONE) {
                break;
            }
            if (got == i) {
                return block;
            }
            got++;
        }
        return i == NONE ? got : NONE;
    }

    public int cheapest(int what) {
        int page = cheapestPage();
        if (page == NONE) {
            return NONE;
        }
        switch (what) {
            case 0:
                return page;
            case 1:
                return now.heldIn(page);
            default:
                return NONE;
        }
    }

    private int cheapestPage() {
        int best = NONE;
        int fewest = 0;
        for (int p = 0; p < rules.values[PAGES]; p++) {
            int used = now.usedOf(p);
            if (used > 0 && (best == NONE || used < fewest)) {
                best = p;
                fewest = used;
            }
        }
        return best;
    }

    public int run(int script, int what) {
        if (!rules.areTold() || !isScript(script) || what < 0 || what > 2) {
            return NONE;
        }
        trial.copyFrom(now);
        int done = progress.runWhole(trial, scripts[script]);
        switch (what) {
            case 0:
                return done;
            case 1:
                return trial.pagesInUse();
            default:
                return trial.heldInAll();
        }
    }

    public int ways(int one, int other, int what) {
        if (!rules.areTold() || !isScript(one) || !isScript(other) || one == other || what < 0 || what > 3) {
            return NONE;
        }
        if (!scripts[one].isMixable() || !scripts[other].isMixable()) {
            return NONE;
        }
        mixer.begin(now, scripts[one], scripts[other]);
        mixer.mix(0, 0, 0);
        switch (what) {
            case 0:
                return mixer.all;
            case 1:
                return mixer.whole;
            case 2:
                return mixer.mostPages;
            default:
                return mixer.fewestPages;
        }
    }

    public int shares(int thread, int c) {
        if (!now.isThread(thread) || c < 0 || c > 999) {
            return NONE;
        }
        int mine = 0;
        int all = 0;
        for (int p = 0; p < rules.values[PAGES]; p++) {
            all += now.usedOf(p);
            mine += now.owner[p] == thread ? now.usedOf(p) : 0;
        }
        return all > 0 ? c * mine / all : 0;
    }

    public int most(int what) {
        if (!rules.areTold()) {
            return HIDDEN;
        }
        switch (what) {
            case 0:
                return fullest();
            case 1:
                return richest();
            case 2:
                return now.livingBits();
            case 3:
                return now.bitsOf(PAGE_ABANDONED);
            case 4:
                return now.bitsOf(PAGE_EMPTY);
            case 5:
                return now.bitsOf(PAGE_FULL);
            case 6:
                return now.bitsOf(PAGE_QUEUED);
            case 7:
                return now.heldInAll();
            case 8:
                return now.outInAll();
            case 9:
                return now.idleUnits();
            case 10:
                return now.foreignInAll();
            case 11:
                return now.lostBlocks();
            default:
                return HIDDEN;
        }
    }

    private int fullest() {
        int best = 0;
        for (int p = 1; p < rules.values[PAGES]; p++) {
            best = now.usedOf(p) > now.usedOf(best) ? p : best;
        }
        return best;
    }

    private int richest() {
        int best = 0;
        for (int t = 1; t < rules.values[THREADS]; t++) {
            best = now.pagesOf(t) > now.pagesOf(best) ? t : best;
        }
        return best;
    }

    // ---- images

    public int image() {
        if (!rules.areTold()) {
            return NONE;
        }
        kept.copyFrom(now);
        imaged = true;
        return now.heldInAll();
    }

    public int back() {
        if (!imaged) {
            return NONE;
        }
        now.copyFrom(kept);
        past.forget();
        return now.heldInAll();
    }

    public int count(int what) {
        switch (what) {
            case 0:
                return rules.kinds;
            case 1:
                return scriptsTold;
            case 2:
                return tape.length;
            case 3:
                return now.log.length();
            case 4:
                return past.many;
            default:
                return HIDDEN;
        }
    }

    /** The bytes that were fed and are no TEXT yet. */
    private static final class Tape {
        final int[] bytes = new int[MOST_BYTES];
        int length = 0;

        int signsIn(int number) {
            int signs = 0;
            for (int shift = 24; shift >= 0; shift -= 8) {
                signs += (number >>> shift & 255) != 0 ? 1 : 0;
            }
            return signs;
        }

        void append(int number) {
            for (int shift = 24; shift >= 0; shift -= 8) {
                int sign = number >>> shift & 255;
                if (sign != 0 && length < bytes.length) {
                    bytes[length] = sign;
                    length++;
                }
            }
        }
    }

    /** Goes over the TAPE sign by sign; stays where the first FAULT is. */
    private static final class Reader {
        private final Tape tape;
        private int at;
        int wrongAt;

        Reader(Tape tape) {
            this.tape = tape;
            at = 0;
            wrongAt = NONE;
        }

        void rewind() {
            at = 0;
            wrongAt = NONE;
        }

        boolean isWrong() {
            return wrongAt != NONE;
        }

        /** Where it stands is wrong; only the first FAULT counts. */
        void mark() {
            if (wrongAt == NONE) {
                wrongAt = at;
            }
        }

        /** The next sign that is no blank, NONE at the end. */
        int peek() {
            while (at < tape.length && tape.bytes[at] == BLANK) {
                at++;
            }
            return at < tape.length ? tape.bytes[at] : NONE;
        }

        void pass() {
            if (at < tape.length) {
                at++;
            }
        }

        void expect(char sign) {
            if (peek() == sign) {
                pass();
            } else {
                mark();
            }
        }

        /** A digit alone, blanks ahead of it allowed. */
        int readDigit() {
            int sign = peek();
            if (!isDigit(sign)) {
                mark();
                return 0;
            }
            pass();
            return sign - '0';
        }

        int readNumber(int least, int greatest) {
            int value = readDigit();
            if (isWrong()) {
                return least;
            }
            if (isDigit(signHere())) {
                value = value * 10 + signHere() - '0';
                pass();
                if (isDigit(signHere())) {
                    mark();
                    return least;
                }
            }
            if (value < least || value > greatest) {
                at--;
                mark();
                return least;
            }
            return value;
        }

        /** No blanks are passed: a number has none in it. */
        private int signHere() {
            return at >= 0 && at < tape.length ? tape.bytes[at] : NONE;
        }

        private static boolean isDigit(int sign) {
            return sign >= '0' && sign <= '9';
        }
    }

    /** What an ARENA's TEXT tells; without one, everything is 0. */
    private static final class Rules {
        final int[] values = new int[5];
        final int[] sizes = new int[MOST_CLASSES];
        int kinds = 0;

        boolean areTold() {
            return kinds > 0;
        }

        boolean isKind(int kind) {
            return kind >= 0 && kind < kinds;
        }

        void copyFrom(Rules other) {
            System.arraycopy(other.values, 0, values, 0, values.length);
            System.arraycopy(other.sizes, 0, sizes, 0, sizes.length);
            kinds = other.kinds;
        }

        /** The FAULT of the TAPE as an ARENA, NONE without. */
        int readFrom(Reader reader) {
            System.arraycopy(RULE_USUAL, 0, values, 0, values.length);
            kinds = 0;
            reader.rewind();
            boolean ruled = false;
            for (int clause = 0; clause < MOST_BYTES && !reader.isWrong(); clause++) {
                int letter = reader.peek();
                if (letter == 's' && !ruled) {
                    ruled = true;
                    reader.pass();
                    readItems(reader, RULE_LETTERS, RULE_LEAST, RULE_MOST, values, 0);
                } else if (letter == 'c' && kinds < MOST_CLASSES) {
                    reader.pass();
                    sizes[kinds] = 1;
                    kinds++;
                    readItems(reader, CLASS_LETTERS, CLASS_LEAST, CLASS_MOST, sizes, kinds - 1);
                } else {
                    reader.mark();
                }
                if (reader.isWrong() || reader.peek() == NONE) {
                    break;
                }
                reader.expect(';');
            }
            // the end was reached then, and that is where it is wrong
            if (!reader.isWrong() && !sizesFit()) {
                reader.mark();
            }
            return reader.wrongAt;
        }

        private static void readItems(Reader reader, String letters, int[] least, int[] greatest, int[] into, int from) {
            int seen = 0;
            // one more than there are letters, as the last one may be there twice
            for (int item = 0; item <= letters.length() && !reader.isWrong(); item++) {
                int sign = reader.peek();
                int which = sign == NONE ? NONE : letters.indexOf((char) sign);
                if (which < 0 || which >= least.length || which >= greatest.length || from + which >= into.length) {
                    return;
                }
                if ((seen >> which & 1) != 0) {
                    reader.mark();
                    return;
                }
                seen |= 1 << which;
                reader.pass();
                into[from + which] = reader.readNumber(least[which], greatest[which]);
            }
        }

        private boolean sizesFit() {
            for (int k = 1; k < kinds; k++) {
                if (sizes[k] <= sizes[k - 1]) {
                    return false;
                }
            }
            return kinds > 0 && sizes[kinds - 1] <= values[UNITS];
        }

        /** The CLASS for n UNITS, NONE: n is out of bounds or too large. */
        int kindFor(int n) {
            for (int k = 0; k < kinds && n >= 1; k++) {
                if (sizes[k] >= n) {
                    return k;
                }
            }
            return NONE;
        }

        int worst() {
            int worst = NONE;
            int wasted = 0;
            int size = 1;
            for (int n = 1; n <= MOST_UNITS; n++) {
                int kind = kindFor(n);
                if (kind == NONE) {
                    break;
                }
                int more = sizes[kind] - n;
                // a fraction is greater than another one, told without dividing
                if (worst == NONE || more * size > wasted * sizes[kind]) {
                    worst = n;
                    wasted = more;
                    size = sizes[kind];
                }
            }
            return worst;
        }

        int blocksOf(int kind) {
            return kind >= 0 && kind < kinds && sizes[kind] > 0 ? values[UNITS] / sizes[kind] : 0;
        }
    }

    /** The STEPS of a SCRIPT's TEXT. */
    private static final class Script {
        final int[] deed = new int[MOST_STEPS];
        final int[] by = new int[MOST_STEPS];
        final int[] number = new int[MOST_STEPS];
        int steps = 0;

        void copyFrom(Script other) {
            System.arraycopy(other.deed, 0, deed, 0, MOST_STEPS);
            System.arraycopy(other.by, 0, by, 0, MOST_STEPS);
            System.arraycopy(other.number, 0, number, 0, MOST_STEPS);
            steps = other.steps;
        }

        /** The FAULT of the TAPE as a SCRIPT, NONE without. */
        int readFrom(Reader reader) {
            steps = 0;
            reader.rewind();
            int scopes = 0;
            boolean ended = false;
            for (int i = 0; i < MOST_STEPS && !ended && !reader.isWrong(); i++) {
                scopes = readStep(reader, i, scopes);
                steps = i + 1;
                ended = reader.peek() == NONE;
                if (!ended && steps < MOST_STEPS) {
                    reader.expect(';');
                }
            }
            if (!ended || scopes > 0) {
                reader.mark();
            }
            return reader.wrongAt;
        }

        /** How many SCOPES are open behind the STEP. */
        private int readStep(Reader reader, int i, int scopes) {
            int sign = reader.peek();
            int what = sign == NONE ? NONE : STEP_LETTERS.indexOf((char) sign);
            boolean tooDeep = what == STEP_OPEN && scopes >= MOST_SCOPES;
            boolean notOpen = what == STEP_CLOSE && scopes <= 0;
            if (what < 0 || tooDeep || notOpen) {
                reader.mark();
                return scopes;
            }
            reader.pass();
            deed[i] = what;
            by[i] = what < STEP_OPEN ? reader.readDigit() : NONE;
            number[i] = NONE;
            if (what == STEP_GET || what == STEP_FREE) {
                reader.expect(':');
                number[i] = what == STEP_GET ? reader.readNumber(1, MOST_UNITS) : reader.readNumber(0, MOST_STEPS - 1);
            }
            if (what == STEP_OPEN) {
                return scopes + 1;
            }
            return what == STEP_CLOSE ? scopes - 1 : scopes;
        }

        /** Whether WAYS takes it: short, and without SCOPES. */
        boolean isMixable() {
            for (int i = 0; i < steps; i++) {
                if (deed[i] == STEP_OPEN || deed[i] == STEP_CLOSE) {
                    return false;
                }
            }
            return steps <= MOST_MIXED_STEPS;
        }
    }

    /** Lists of things that are told by numbers, each thing in one list at most. */
    private static final class Chains {
        final int[] first;
        final int[] many;
        final int[] next;
        final int[] home;

        Chains(int lists, int things) {
            first = new int[lists];
            many = new int[lists];
            next = new int[things];
            home = new int[things];
            Arrays.fill(first, NONE);
            Arrays.fill(next, NONE);
            Arrays.fill(home, NONE);
        }

        void clearAll() {
            Arrays.fill(first, NONE);
            Arrays.fill(many, 0);
            Arrays.fill(next, NONE);
            Arrays.fill(home, NONE);
        }

        void copyFrom(Chains other) {
            System.arraycopy(other.first, 0, first, 0, first.length);
            System.arraycopy(other.many, 0, many, 0, many.length);
            System.arraycopy(other.next, 0, next, 0, next.length);
            System.arraycopy(other.home, 0, home, 0, home.length);
        }

        void push(int list, int thing) {
            if (list < 0 || list >= first.length || thing < 0 || thing >= next.length) {
                return;
            }
            next[thing] = first[list];
            first[list] = thing;
            home[thing] = list;
            many[list]++;
        }

        void append(int list, int thing) {
            if (list < 0 || list >= first.length || thing < 0 || thing >= next.length) {
                return;
            }
            int last = NONE;
            for (int i = 0, t = first[list]; i < next.length && t != NONE; i++, t = next[t]) {
                last = t;
            }
            if (last == NONE) {
                first[list] = thing;
            } else {
                next[last] = thing;
            }
            next[thing] = NONE;
            home[thing] = list;
            many[list]++;
        }

        int pop(int list) {
            if (list < 0 || list >= first.length || first[list] == NONE) {
                return NONE;
            }
            int thing = first[list];
            first[list] = next[thing];
            next[thing] = NONE;
            home[thing] = NONE;
            many[list]--;
            return thing;
        }

        /** Takes a thing out of the list that it is in, if any. */
        void drop(int thing) {
            if (thing < 0 || thing >= next.length || home[thing] == NONE) {
                return;
            }
            int list = home[thing];
            int ahead = NONE;
            for (int i = 0, t = first[list]; i < next.length && t != NONE && t != thing; i++, t = next[t]) {
                ahead = t;
            }
            if (ahead == NONE) {
                first[list] = next[thing];
            } else {
                next[ahead] = next[thing];
            }
            next[thing] = NONE;
            home[thing] = NONE;
            many[list]--;
        }

        /** All of one list comes ahead of another one's, in its order. */
        void moveAhead(int from, int to) {
            if (from < 0 || from >= first.length || to < 0 || to >= first.length || from == to || first[from] == NONE) {
                return;
            }
            int last = NONE;
            for (int i = 0, t = first[from]; i < next.length && t != NONE; i++, t = next[t]) {
                home[t] = to;
                last = t;
            }
            if (last != NONE) {
                next[last] = first[to];
            }
            first[to] = first[from];
            many[to] += many[from];
            first[from] = NONE;
            many[from] = 0;
        }

        int thingAt(int list, int i) {
            if (list < 0 || list >= first.length || i < 0 || i >= many[list]) {
                return NONE;
            }
            int thing = first[list];
            for (int k = 0; k < i && thing != NONE; k++) {
                thing = next[thing];
            }
            return thing;
        }

        int placeOf(int thing) {
            if (thing < 0 || thing >= next.length || home[thing] == NONE) {
                return NONE;
            }
            int place = 0;
            for (int t = first[home[thing]]; place < next.length && t != NONE && t != thing; t = next[t]) {
                place++;
            }
            return place;
        }
    }

    /** The LOG: each entry is one number, so that copies stay small. */
    private static final class Log {
        final int[] entries = new int[MOST_LOGGED];
        int all = 0;

        void copyFrom(Log other) {
            System.arraycopy(other.entries, 0, entries, 0, entries.length);
            all = other.all;
        }

        void note(int block, int thread, int how) {
            entries[Math.floorMod(all, MOST_LOGGED)] = (block * 10 + thread) * 10 + how;
            all++;
        }

        int length() {
            return Math.min(all, MOST_LOGGED);
        }

        private int entryAt(int i) {
            return entries[Math.floorMod(all - 1 - i, MOST_LOGGED)];
        }

        int blockAt(int i) {
            return entryAt(i) / 100;
        }

        int threadAt(int i) {
            return entryAt(i) / 10 % 10;
        }

        int howAt(int i) {
            return entryAt(i) % 10;
        }
    }

    /** All that ACTS change: PAGES, QUEUES, lists, OUTBOXES, THREADS, the LOG. */
    private static final class Heap {
        final Rules rules;
        final int[] kind = new int[MOST_PAGES];
        final int[] owner = new int[MOST_PAGES];
        final int[] cut = new int[MOST_PAGES];
        final Chains queues = new Chains(MOST_THREADS * MOST_CLASSES, MOST_PAGES);
        final Chains blocks = new Chains(ALL_LISTS, MOST_PAGES * MOST_UNITS);
        final int[] lives = new int[MOST_THREADS];
        final int[] gets = new int[MOST_THREADS];
        final Log log = new Log();

        Heap(Rules rules) {
            this.rules = rules;
            Arrays.fill(kind, NONE);
            Arrays.fill(owner, NONE);
            Arrays.fill(lives, 1);
        }

        void makeNew() {
            Arrays.fill(kind, NONE);
            Arrays.fill(owner, NONE);
            Arrays.fill(cut, 0);
            queues.clearAll();
            blocks.clearAll();
            Arrays.fill(lives, 1);
            Arrays.fill(gets, 0);
            log.all = 0;
        }

        void copyFrom(Heap other) {
            System.arraycopy(other.kind, 0, kind, 0, MOST_PAGES);
            System.arraycopy(other.owner, 0, owner, 0, MOST_PAGES);
            System.arraycopy(other.cut, 0, cut, 0, MOST_PAGES);
            queues.copyFrom(other.queues);
            blocks.copyFrom(other.blocks);
            System.arraycopy(other.lives, 0, lives, 0, MOST_THREADS);
            System.arraycopy(other.gets, 0, gets, 0, MOST_THREADS);
            log.copyFrom(other.log);
        }

        // ---- what there is

        boolean isPage(int page) {
            return page >= 0 && page < rules.values[PAGES];
        }

        boolean isThread(int thread) {
            return thread >= 0 && thread < rules.values[THREADS];
        }

        boolean isLiving(int thread) {
            return isThread(thread) && lives[thread] == 1;
        }

        boolean isBlock(int block) {
            int page = block / BLOCKS_OF_PAGE;
            return block >= 0 && page < rules.values[PAGES] && block % BLOCKS_OF_PAGE < cut[page];
        }

        boolean isHeld(int block) {
            return isBlock(block) && blocks.home[thingOf(block)] == NONE;
        }

        int thingOf(int block) {
            return block / BLOCKS_OF_PAGE * MOST_UNITS + block % BLOCKS_OF_PAGE;
        }

        int ownNumber(int thing) {
            return thing == NONE ? NONE : thing % MOST_UNITS;
        }

        int listOf(int page, int which) {
            return page * LISTS_OF_PAGE + which;
        }

        int outboxOf(int thread, int page) {
            return FIRST_OUTBOX + thread * MOST_PAGES + page;
        }

        int queueOf(int thread, int sort) {
            return thread * MOST_CLASSES + sort;
        }

        int lengthOf(int page, int which) {
            return blocks.many[page * LISTS_OF_PAGE + which];
        }

        int usedOf(int page) {
            int lists = page * LISTS_OF_PAGE;
            return cut[page] - blocks.many[lists + READY] - blocks.many[lists + LOCAL] - blocks.many[lists + FOREIGN];
        }

        int stateOf(int page) {
            if (kind[page] == NONE) {
                return PAGE_EMPTY;
            }
            if (owner[page] == NONE) {
                return PAGE_ABANDONED;
            }
            return queues.home[page] == NONE ? PAGE_FULL : PAGE_QUEUED;
        }

        int pagesOf(int thread) {
            int pages = 0;
            for (int p = 0; p < rules.values[PAGES]; p++) {
                pages += owner[p] == thread ? 1 : 0;
            }
            return pages;
        }

        int outOf(int thread) {
            int out = 0;
            for (int p = 0; p < rules.values[PAGES]; p++) {
                out += blocks.many[outboxOf(thread, p)];
            }
            return out;
        }

        int heldIn(int page) {
            int held = usedOf(page);
            for (int t = 0; t < rules.values[THREADS]; t++) {
                held -= blocks.many[outboxOf(t, page)];
            }
            return held;
        }

        int heldInAll() {
            int held = 0;
            for (int p = 0; p < rules.values[PAGES]; p++) {
                held += heldIn(p);
            }
            return held;
        }

        /** The i-th HELD BLOCK, rising, as a number. */
        int heldAt(int i) {
            int left = i;
            for (int p = 0; p < rules.values[PAGES]; p++) {
                for (int own = 0; own < cut[p]; own++) {
                    if (blocks.home[p * MOST_UNITS + own] != NONE) {
                        continue;
                    }
                    if (left == 0) {
                        return p * BLOCKS_OF_PAGE + own;
                    }
                    left--;
                }
            }
            return NONE;
        }

        int pagesInUse() {
            int pages = 0;
            for (int p = 0; p < rules.values[PAGES]; p++) {
                pages += kind[p] == NONE ? 0 : 1;
            }
            return pages;
        }

        int livingBits() {
            int bits = 0;
            for (int t = 0; t < rules.values[THREADS]; t++) {
                bits |= lives[t] << t;
            }
            return bits;
        }

        int bitsOf(int state) {
            int bits = 0;
            for (int p = 0; p < rules.values[PAGES]; p++) {
                bits |= stateOf(p) == state ? 1 << p : 0;
            }
            return bits;
        }

        int outInAll() {
            int out = 0;
            for (int t = 0; t < rules.values[THREADS]; t++) {
                out += outOf(t);
            }
            return out;
        }

        int idleUnits() {
            int idle = 0;
            for (int p = 0; p < rules.values[PAGES]; p++) {
                if (rules.isKind(kind[p])) {
                    idle += rules.values[UNITS] - usedOf(p) * rules.sizes[kind[p]];
                }
            }
            return idle;
        }

        int foreignInAll() {
            int foreign = 0;
            for (int p = 0; p < rules.values[PAGES]; p++) {
                foreign += lengthOf(p, FOREIGN);
            }
            return foreign;
        }

        int lostBlocks() {
            int lost = 0;
            for (int p = 0; p < rules.values[PAGES]; p++) {
                for (int own = 0; own < cut[p]; own++) {
                    lost += placesOf(p, p * MOST_UNITS + own) == 1 ? 0 : 1;
                }
            }
            return lost;
        }

        /** In how many lists a BLOCK is found by going along them; HELD counts as one. */
        private int placesOf(int page, int thing) {
            int places = blocks.home[thing] == NONE ? 1 : 0;
            for (int which = READY; which <= FOREIGN; which++) {
                places += timesIn(listOf(page, which), thing);
            }
            for (int t = 0; t < rules.values[THREADS]; t++) {
                places += timesIn(outboxOf(t, page), thing);
            }
            return places;
        }

        private int timesIn(int list, int thing) {
            int times = 0;
            int t = blocks.first[list];
            for (int i = 0; i < MOST_UNITS && t != NONE; i++) {
                times += t == thing ? 1 : 0;
                t = blocks.next[t];
            }
            return times;
        }

        // ---- GET

        /** The PAGE that a GET is served from, NONE if it can't be. */
        int pageFor(int thread, int sort) {
            int page = queues.first[queueOf(thread, sort)];
            for (int i = 0; i < MOST_PAGES && page != NONE; i++) {
                if (usedOf(page) < cut[page]) {
                    return page;
                }
                page = queues.next[page];
            }
            int empty = NONE;
            for (int p = 0; p < rules.values[PAGES]; p++) {
                if (kind[p] == sort && owner[p] == NONE && usedOf(p) < cut[p]) {
                    return p;
                }
                empty = empty == NONE && kind[p] == NONE ? p : empty;
            }
            return empty;
        }

        /** HOW a BLOCK is got from the PAGE that pageFor told. */
        int howFrom(int thread, int page) {
            if (!isPage(page)) {
                return NONE;
            }
            if (kind[page] == NONE) {
                return BY_EMPTY;
            }
            if (owner[page] != thread) {
                return BY_ADOPTED;
            }
            if (queues.first[queueOf(thread, kind[page])] != page) {
                return BY_LATER;
            }
            if (lengthOf(page, READY) > 0) {
                return BY_READY;
            }
            return lengthOf(page, LOCAL) > 0 ? BY_LOCAL : BY_FOREIGN;
        }

        /** GET; NONE if it can't be, and nothing is changed then. */
        int takeBlock(int thread, int n) {
            int sort = rules.kindFor(n);
            int page = sort == NONE || !isLiving(thread) ? NONE : pageFor(thread, sort);
            if (page == NONE) {
                return NONE;
            }
            int how = howFrom(thread, page);
            bringToFront(thread, sort, page);
            int block = page * BLOCKS_OF_PAGE + takeReady(page);
            gets[thread]++;
            log.note(block, thread, how);
            int every = rules.values[BEAT];
            if (every > 0 && gets[thread] % every == 0) {
                beat(thread);
            }
            return block;
        }

        /** The PAGES ahead of it had nothing, so they leave the QUEUE and are FULL by that. */
        private void bringToFront(int thread, int sort, int page) {
            int queue = queueOf(thread, sort);
            for (int i = 0; i < MOST_PAGES && queues.first[queue] != NONE && queues.first[queue] != page; i++) {
                queues.pop(queue);
            }
            if (kind[page] == NONE) {
                fill(page, sort);
            }
            if (owner[page] != thread) {
                owner[page] = thread;
                queues.append(queue, page);
            }
        }

        private void fill(int page, int sort) {
            kind[page] = sort;
            cut[page] = rules.blocksOf(sort);
            for (int own = cut[page] - 1; own >= 0; own--) {
                blocks.push(listOf(page, READY), page * MOST_UNITS + own);
            }
        }

        private int takeReady(int page) {
            int ready = listOf(page, READY);
            if (blocks.many[ready] == 0) {
                blocks.moveAhead(listOf(page, lengthOf(page, LOCAL) > 0 ? LOCAL : FOREIGN), ready);
            }
            return ownNumber(blocks.pop(ready));
        }

        // ---- FREE, SEND, TICK, ends

        /** FREE; NONE if it can't be, and nothing is changed then. */
        int giveBlock(int thread, int block) {
            if (!isLiving(thread) || !isHeld(block)) {
                return NONE;
            }
            int page = block / BLOCKS_OF_PAGE;
            if (owner[page] != thread) {
                int outbox = outboxOf(thread, page);
                blocks.push(outbox, thingOf(block));
                boolean whole = blocks.many[outbox] >= rules.values[BATCH];
                return whole && goHome(thread, page) > 0 ? BACK_HOME : BACK_OUTBOX;
            }
            blocks.push(listOf(page, LOCAL), thingOf(block));
            int queue = queueOf(thread, kind[page]);
            if (queues.home[page] == NONE) {
                queues.append(queue, page);
            }
            if (usedOf(page) == 0 && queues.many[queue] > 1) {
                makeEmpty(page);
            }
            return BACK_LOCAL;
        }

        /** How many BLOCKS went HOME. */
        private int goHome(int thread, int page) {
            int outbox = outboxOf(thread, page);
            int many = blocks.many[outbox];
            if (many == 0) {
                return 0;
            }
            blocks.moveAhead(outbox, listOf(page, FOREIGN));
            if (owner[page] == NONE && usedOf(page) == 0) {
                vacate(page);
            }
            return many;
        }

        private void makeEmpty(int page) {
            queues.drop(page);
            vacate(page);
        }

        /** The BLOCKS themselves need no care: without a CLASS there are none, and with the next one all come anew. */
        private void vacate(int page) {
            for (int list = page * LISTS_OF_PAGE; list < (page + 1) * LISTS_OF_PAGE; list++) {
                blocks.first[list] = NONE;
                blocks.many[list] = 0;
            }
            kind[page] = NONE;
            owner[page] = NONE;
            cut[page] = 0;
        }

        int sendAll(int thread) {
            int sent = 0;
            for (int p = 0; p < rules.values[PAGES]; p++) {
                sent += goHome(thread, p);
            }
            return sent;
        }

        /** TICK. */
        void beat(int thread) {
            for (int p = 0; p < rules.values[PAGES]; p++) {
                goHome(thread, p);
            }
            queueFullAgain(thread);
            for (int p = 0; p < rules.values[PAGES]; p++) {
                int queue = queues.home[p];
                if (owner[p] == thread && queue != NONE && usedOf(p) == 0 && queues.many[queue] > 1) {
                    makeEmpty(p);
                }
            }
        }

        private void queueFullAgain(int thread) {
            for (int p = 0; p < rules.values[PAGES]; p++) {
                boolean full = owner[p] == thread && queues.home[p] == NONE;
                if (full && lengthOf(p, LOCAL) + lengthOf(p, FOREIGN) > 0) {
                    queues.append(queueOf(thread, kind[p]), p);
                }
            }
        }

        /** A THREAD ends, or begins again. */
        void turnOver(int thread) {
            if (!isLiving(thread)) {
                lives[thread] = 1;
                return;
            }
            sendAll(thread);
            for (int p = 0; p < rules.values[PAGES]; p++) {
                if (owner[p] == thread && usedOf(p) == 0) {
                    makeEmpty(p);
                } else if (owner[p] == thread) {
                    queues.drop(p);
                    owner[p] = NONE;
                }
            }
            lives[thread] = 0;
        }

        int lowestLiving() {
            for (int t = 0; t < rules.values[THREADS]; t++) {
                if (lives[t] == 1) {
                    return t;
                }
            }
            return NONE;
        }
    }

    /** The ACTS that can be UNDONE: how all was ahead of each of them, in a ring. */
    private static final class Past {
        private final Heap[] before = new Heap[MOST_ACTS];
        private int oldest;
        int many;

        Past(Rules rules) {
            for (int i = 0; i < MOST_ACTS; i++) {
                before[i] = new Heap(rules);
            }
            oldest = 0;
            many = 0;
        }

        void forget() {
            many = 0;
        }

        void keep(Heap now) {
            if (many == MOST_ACTS) {
                oldest = (oldest + 1) % MOST_ACTS;
                many--;
            }
            before[(oldest + many) % MOST_ACTS].copyFrom(now);
            many++;
        }

        int takeBack(Heap now) {
            if (many <= 0) {
                return NONE;
            }
            many--;
            now.copyFrom(before[(oldest + many) % MOST_ACTS]);
            return many;
        }
    }

    /** How far a SCRIPT has come: the BLOCKS that were got in it, and by whom; the SCOPES that are open. */
    private static final class Progress {
        private final int[] block = new int[MOST_STEPS];
        private final int[] by = new int[MOST_STEPS];
        private final int[] scope = new int[MOST_STEPS];
        private int got = 0;
        private int depth = 0;

        void restart() {
            got = 0;
            depth = 0;
        }

        void copyFrom(Progress other) {
            System.arraycopy(other.block, 0, block, 0, MOST_STEPS);
            System.arraycopy(other.by, 0, by, 0, MOST_STEPS);
            System.arraycopy(other.scope, 0, scope, 0, MOST_STEPS);
            got = other.got;
            depth = other.depth;
        }

        /** How many STEPS were done. */
        int runWhole(Heap heap, Script script) {
            restart();
            int done = 0;
            while (done < script.steps && doStep(heap, script, done)) {
                done++;
            }
            for (int open = depth; open > 0; open--) {
                endScope(heap);
            }
            return done;
        }

        /** False: the STEP can't be, and nothing is changed. */
        boolean doStep(Heap heap, Script script, int i) {
            int thread = script.by[i];
            switch (script.deed[i]) {
                case STEP_OPEN:
                    depth++;
                    return true;
                case STEP_CLOSE:
                    endScope(heap);
                    return true;
                case STEP_TURN:
                    if (!heap.isThread(thread)) {
                        return false;
                    }
                    heap.turnOver(thread);
                    return true;
                case STEP_GET:
                    return noteGot(heap.takeBlock(thread, script.number[i]), thread);
                case STEP_FREE:
                    return giveNumbered(heap, thread, script.number[i]);
                default:
                    return tickOrSend(heap, thread, script.deed[i]);
            }
        }

        private boolean tickOrSend(Heap heap, int thread, int deed) {
            if (!heap.isLiving(thread)) {
                return false;
            }
            if (deed == STEP_TICK) {
                heap.beat(thread);
            } else {
                heap.sendAll(thread);
            }
            return true;
        }

        private boolean noteGot(int number, int thread) {
            if (number == NONE || got >= MOST_STEPS) {
                return false;
            }
            block[got] = number;
            by[got] = thread;
            scope[got] = depth;
            got++;
            return true;
        }

        private boolean giveNumbered(Heap heap, int thread, int number) {
            if (number < 0 || number >= got || block[number] == NONE || !heap.isLiving(thread)) {
                return false;
            }
            heap.giveBlock(thread, block[number]);
            block[number] = NONE;
            return true;
        }

        /** What stays HELD is of no SCOPE then: another one of the same depth must not free it. */
        private void endScope(Heap heap) {
            for (int r = got - 1; r >= 0 && depth > 0; r--) {
                if (scope[r] != depth) {
                    continue;
                }
                scope[r] = 0;
                int thread = heap.isLiving(by[r]) ? by[r] : heap.lowestLiving();
                if (thread != NONE && block[r] != NONE) {
                    heap.giveBlock(thread, block[r]);
                    block[r] = NONE;
                }
            }
            depth--;
        }
    }

    /** All ways in which two SCRIPTS may run into one another. */
    private static final class Mixer {
        private final Heap[] heaps = new Heap[MOST_MIXED_STEPS + 1];
        private final Progress[] ofOne = new Progress[MOST_MIXED_STEPS + 1];
        private final Progress[] ofOther = new Progress[MOST_MIXED_STEPS + 1];
        private Script one;
        private Script other;
        int all;
        int whole;
        int mostPages;
        int fewestPages;

        Mixer(Rules rules) {
            for (int i = 0; i < heaps.length; i++) {
                heaps[i] = new Heap(rules);
                ofOne[i] = new Progress();
                ofOther[i] = new Progress();
            }
            one = new Script();
            other = one;
        }

        void begin(Heap now, Script one, Script other) {
            this.one = one;
            this.other = other;
            heaps[0].copyFrom(now);
            ofOne[0].restart();
            ofOther[0].restart();
            all = 0;
            whole = 0;
            mostPages = 0;
            fewestPages = MOST_PAGES;
        }

        /** Goes on from the STEPS i and j; the heap of this level is used up by it, a STEP of the one takes the next level's. */
        private void mix(int level, int i, int j) {
            if (level >= heaps.length || i > MOST_MIXED_STEPS || j > MOST_MIXED_STEPS) {
                return;
            }
            int restOfOne = one.steps - i;
            int restOfOther = other.steps - j;
            if (restOfOne <= 0 && restOfOther <= 0) {
                whole++;
                tally(heaps[level], 1);
                return;
            }
            if (restOfOne > 0) {
                int next = restOfOther > 0 ? deepen(level) : level;
                if (ofOne[next].doStep(heaps[next], one, i)) {
                    mix(next, i + 1, j);
                } else {
                    tally(heaps[next], waysOf(restOfOne - 1, restOfOther));
                }
            }
            if (restOfOther > 0) {
                if (ofOther[level].doStep(heaps[level], other, j)) {
                    mix(level, i, j + 1);
                } else {
                    tally(heaps[level], waysOf(restOfOne, restOfOther - 1));
                }
            }
        }

        private int deepen(int level) {
            int next = Math.min(level + 1, heaps.length - 1);
            heaps[next].copyFrom(heaps[level]);
            ofOne[next].copyFrom(ofOne[level]);
            ofOther[next].copyFrom(ofOther[level]);
            return next;
        }

        private void tally(Heap heap, int ways) {
            int pages = heap.pagesInUse();
            all += ways;
            mostPages = Math.max(mostPages, pages);
            fewestPages = Math.min(fewestPages, pages);
        }

        private static int waysOf(int a, int b) {
            int ways = 1;
            for (int k = 1; k <= b; k++) {
                ways = ways * (a + k) / k;
            }
            return ways;
        }
    }
}
