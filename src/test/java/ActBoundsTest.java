/** ==== 2 by hand: PAGES and their lists, GET, FREE, SEND, TICK, THREADS that end and begin (promises 6 to 18). */
public final class ActBoundsTest {
    private static final int NONE = HomeFreed.NONE;
    private static final Check CHECK = new Check();

    public static void main(String[] args) {
        atFirst();
        blocksOfPages();
        pagesOfAllSorts();
        queuesAndOutboxes();
        classOfGet();
        collecting();
        fullPages();
        adopting();
        emptyPages();
        noRoom();
        howItWasGot();
        beats();
        freeByOwner();
        emptyByFree();
        freeByOthers();
        goingHome();
        abandonedAndUnused();
        emptied();
        sending();
        ticks();
        ticksThatEmpty();
        threadsThatEnd();
        threadsThatBeginAgain();
        refusedGets();
        refusedFrees();
        refusedOthers();
        askedOutOfBounds();
        CHECK.close("ActBoundsTest");
    }

    private static void pageIs(HomeFreed x, int page, int... want) {
        CHECK.are("page " + page, Shown.page(x, page), want);
    }

    private static void queueIs(HomeFreed x, int thread, int kind, int... want) {
        CHECK.are("queue " + thread + " " + kind, Shown.queue(x, thread, kind), want);
    }

    private static void listIs(HomeFreed x, int page, int which, int... want) {
        CHECK.are("list " + page + " " + which, Shown.list(x, page, which), want);
    }

    private static void outboxIs(HomeFreed x, int thread, int page, int... want) {
        CHECK.are("outbox " + thread + " " + page, Shown.outbox(x, thread, page), want);
    }

    private static void statusIs(HomeFreed x, int... want) {
        CHECK.are("status", Shown.status(x), want);
    }

    private static void atFirst() {
        CHECK.said("PAGES are EMPTY at first.");
        for (int pages = 1; pages <= 16; pages++) {
            HomeFreed x = Check.arena("sp" + pages + ";c");
            CHECK.is("bits", x.most(4), (1 << pages) - 1);
            for (int p = 0; p < pages; p++) {
                pageIs(x, p, 0, NONE, NONE, 0, 0, 0, 0);
            }
            CHECK.throwsNoSuch("page " + pages, x, pages, 0);
        }
        CHECK.said("THREADS live at first.");
        for (int threads = 1; threads <= 4; threads++) {
            HomeFreed x = Check.arena("st" + threads + ";c");
            CHECK.is("bits", x.most(2), (1 << threads) - 1);
            for (int t = 0; t < threads; t++) {
                CHECK.are("thread " + t, Shown.thread(x, t), 1, 0, 0, 0);
            }
            CHECK.is("no more", x.thread(threads, 0), NONE);
        }
    }

    private static void blocksOfPages() {
        CHECK.said("BLOCKS, numbered from 0, as many as UNITS by SIZE, cut");
        int[][] unitsSizeBlocks = {{40, 40, 1}, {40, 21, 1}, {40, 20, 2}, {40, 13, 3}, {40, 1, 40}, {4, 4, 1}, {4, 3, 1},
            {4, 2, 2}, {4, 1, 4}, {16, 5, 3}, {39, 20, 1}, {39, 2, 19}};
        for (int[] want : unitsSizeBlocks) {
            HomeFreed x = Check.arena("su" + want[0] + ";cz" + want[1]);
            CHECK.is("the first", x.get(0, 1), 0);
            CHECK.is("ready", x.page(0, 4), want[2] - 1);
            CHECK.is("the last is one", x.held(want[2] - 1), want[2] == 1 ? 1 : 0);
            CHECK.is("no more", x.held(want[2]), NONE);
            CHECK.is("nowhere", x.where(want[2], 0), NONE);
        }
        CHECK.said("a BLOCK as a number: 100 times the PAGE and its own");
        HomeFreed x = Check.arena("st1p16u40h30;c;cz40");
        for (int p = 0; p < 15; p++) {
            CHECK.is("page " + p, x.get(0, 40), 100 * p);
        }
        for (int own = 0; own < 40; own++) {
            CHECK.is("own " + own, x.get(0, 1), 1500 + own);
        }
        CHECK.is("the greatest number", x.held(1539), 1);
        CHECK.is("no room", x.get(0, 1), NONE);
        for (int block : new int[] {1540, 1599, 1600, 1639, 1, 99, 139, 1401, -1, -100, -61}) {
            CHECK.is("no block " + block, x.held(block), NONE);
            CHECK.is("no block " + block, x.free(0, block), NONE);
            CHECK.is("no block " + block, x.where(block, 0), NONE);
        }
        statusIs(x, 11, 0, 0, 1);
        CHECK.is("it is freed", x.free(0, 1539), 0);
        listIs(x, 15, 1, 39);
    }

    private static void pagesOfAllSorts() {
        CHECK.said("Of a PAGE: 0 what it is (0 EMPTY, 1 QUEUED, 2 FULL, 3 ABANDONED), 1 its OWNER (NONE), 2 its CLASS (NONE), "
                + "3 USED, 4, 5, 6 how many are READY, LOCAL, FOREIGN (0).");
        HomeFreed x = Check.arena("st3p5u7b1h30;cz2;cz3");
        Check.gets(x, 1, 3, 3);
        Check.gets(x, 2, 2, 2);
        x.free(1, 200);
        x.turn(2);
        pageIs(x, 0, 2, 1, 1, 2, 0, 0, 0);
        pageIs(x, 1, 1, 1, 1, 1, 1, 0, 0);
        pageIs(x, 2, 3, NONE, 0, 1, 1, 0, 1);
        pageIs(x, 3, 0, NONE, NONE, 0, 0, 0, 0);
        x.free(1, 100);
        x.free(0, 0);
        pageIs(x, 0, 2, 1, 1, 1, 0, 0, 1);
        pageIs(x, 1, 1, 1, 1, 0, 1, 1, 0);
    }

    private static void queuesAndOutboxes() {
        CHECK.said("each THREAD has a QUEUE for each CLASS");
        HomeFreed x = Check.arena("st4p16u8h30;c;cz2;cz3;cz4;cz5;cz6");
        for (int p = 0; p < 16; p++) {
            x.get(p % 4, p / 4 + 3);
        }
        for (int t = 0; t < 4; t++) {
            queueIs(x, t, 0);
            queueIs(x, t, 1);
            for (int k = 2; k < 6; k++) {
                queueIs(x, t, k, 4 * (k - 2) + t);
            }
            CHECK.is("no seventh class", x.queue(t, 6, 0), NONE);
        }
        CHECK.said("or in an OUTBOX: each THREAD has one for each PAGE");
        HomeFreed y = Check.arena("st4p2u4b9h30;c;cz2");
        Check.gets(y, 0, 1, 4);
        Check.gets(y, 0, 2, 2);
        y.free(1, 0);
        y.free(2, 1);
        y.free(3, 2);
        y.free(1, 3);
        y.free(3, 100);
        y.free(3, 101);
        outboxIs(y, 0, 0);
        outboxIs(y, 1, 0, 3, 0);
        outboxIs(y, 1, 1);
        outboxIs(y, 2, 0, 1);
        outboxIs(y, 3, 0, 2);
        outboxIs(y, 3, 1, 1, 0);
        CHECK.is("of 3 in all", y.thread(3, 3), 3);
        CHECK.said("USED of a PAGE: how many of its BLOCKS are in none of its lists.");
        CHECK.is("all in outboxes are used", y.page(0, 3), 4);
        CHECK.is("none is held", y.most(7), 0);
        y.send(1);
        CHECK.is("two went home", y.page(0, 3), 2);
        y.send(2);
        y.send(3);
        CHECK.is("all went home", y.page(0, 3), 0);
        CHECK.is("all went home", y.page(1, 3), 0);
    }

    private static void classOfGet() {
        CHECK.said("the CLASS is the first one with SIZE n or more");
        HomeFreed x = Check.arena("st1p16u40h30;cz2;cz3;cz8;cz40");
        int[][] sizeClass = {{1, 0}, {2, 0}, {3, 1}, {4, 2}, {8, 2}, {9, 3}, {40, 3}};
        for (int[] want : sizeClass) {
            CHECK.is("class of " + want[0], x.page(x.get(0, want[0]) / 100, 2), want[1]);
        }
    }

    private static void collecting() {
        CHECK.said("has it none READY: it COLLECTS: all that is LOCAL is READY then (in that order), "
                + "or, if nothing is LOCAL, all that is FOREIGN");
        HomeFreed x = Check.arena("st2p2u5b2h30;c");
        Check.gets(x, 0, 1, 4);
        x.free(0, 1);
        x.free(0, 3);
        x.free(1, 0);
        x.free(1, 2);
        CHECK.is("one is ready still: nothing is collected", x.get(0, 1), 4);
        listIs(x, 0, 1, 3, 1);
        listIs(x, 0, 2, 2, 0);
        CHECK.is("the front of what was local", x.get(0, 1), 3);
        listIs(x, 0, 0, 1);
        listIs(x, 0, 1);
        listIs(x, 0, 2, 2, 0);
        CHECK.is("the rest of it", x.get(0, 1), 1);
        listIs(x, 0, 2, 2, 0);
        x.free(0, 4);
        CHECK.is("local once more, ahead of what is foreign", x.get(0, 1), 4);
        CHECK.is("then the front of what was foreign", x.get(0, 1), 2);
        listIs(x, 0, 0, 0);
        listIs(x, 0, 2);
        CHECK.is("the rest of it", x.get(0, 1), 0);
        pageIs(x, 0, 1, 0, 0, 5, 0, 0, 0);
    }

    private static void fullPages() {
        CHECK.said("else the PAGE is FULL (it leaves the QUEUE)");
        HomeFreed x = Check.arena("st1p3u4h30;cz2");
        Check.gets(x, 0, 1, 2);
        pageIs(x, 0, 1, 0, 0, 2, 0, 0, 0);
        queueIs(x, 0, 0, 0);
        CHECK.is("the next one finds nothing", x.get(0, 1), 100);
        pageIs(x, 0, 2, 0, 0, 2, 0, 0, 0);
        queueIs(x, 0, 0, 1);
        CHECK.is("it is owned still", x.thread(0, 1), 2);
        x.get(0, 1);
        x.free(0, 0);
        queueIs(x, 0, 0, 1, 0);
        CHECK.is("a later page serves", x.get(0, 1), 0);
        queueIs(x, 0, 0, 0);
        CHECK.is("the one ahead of it is full", x.most(5), 2);
    }

    private static void adopting() {
        CHECK.said("the lowest ABANDONED PAGE of that CLASS with any BLOCK in its lists is ADOPTED: "
                + "its OWNER is that THREAD, it comes to the end of the QUEUE");
        // thread 0: page 0 of class 1, pages 1 (all held), 2, 3 of class 0
        HomeFreed x = Check.arena("st3p5u4b9h30;c;cz2");
        x.get(0, 2);
        Check.gets(x, 0, 1, 9);
        x.free(0, 203);
        x.free(0, 200);
        x.turn(0);
        CHECK.is("abandoned", x.most(3), 15);
        CHECK.is("not of another class, not one that is all held", x.get(1, 1), 200);
        pageIs(x, 2, 1, 1, 0, 3, 1, 0, 0);
        queueIs(x, 1, 0, 2);
        CHECK.is("the other is local no more", x.get(1, 1), 203);
        CHECK.is("the next one, ready at once", x.get(1, 1), 301);
        CHECK.is("how", x.log(0, 2), 4);
        queueIs(x, 1, 0, 3);
        pageIs(x, 2, 2, 1, 0, 4, 0, 0, 0);
        CHECK.is("of the other class", x.get(1, 2), 1);
        pageIs(x, 0, 1, 1, 1, 2, 0, 0, 0);
        pageIs(x, 1, 3, NONE, 0, 4, 0, 0, 0);
        x.free(2, 101);
        x.free(2, 102);
        Check.gets(x, 1, 1, 2);
        CHECK.is("what is in an outbox is in no list: an empty page", x.get(1, 1), 400);
        Check.gets(x, 1, 1, 3);
        CHECK.is("nothing more", x.get(1, 1), NONE);
        x.send(2);
        CHECK.is("foreign ones alone do", x.get(1, 1), 102);
        pageIs(x, 1, 1, 1, 0, 3, 1, 0, 0);
        // an abandoned page comes ahead of an empty one, be that lower
        HomeFreed y = Check.arena("st2p3u4b9h30;c;cz2");
        y.get(1, 2);
        y.get(0, 1);
        y.free(1, 0);
        y.turn(1);
        y.turn(0);
        y.turn(1);
        CHECK.is("page 0 is empty", y.page(0, 0), 0);
        CHECK.is("adopted", y.get(1, 1), 101);
        // its own outbox of the page stays as it is
        HomeFreed z = Check.arena("st2p1u4b3h30;c");
        Check.gets(z, 0, 1, 2);
        z.free(1, 1);
        z.turn(0);
        CHECK.is("adopted", z.get(1, 1), 2);
        outboxIs(z, 1, 0, 1);
        CHECK.is("where", z.where(1, 2), 1);
        CHECK.is("how many more", z.where(1, 3), 2);
        CHECK.is("local now", z.free(1, 0), 0);
        CHECK.is("sent to its own page", z.send(1), 1);
        listIs(z, 0, 2, 1);
    }

    private static void emptyPages() {
        CHECK.said("the lowest EMPTY PAGE has that CLASS and OWNER, all its BLOCKS are READY, rising, "
                + "it comes to the end of the QUEUE");
        HomeFreed x = Check.arena("st2p4u8b9h30;cz2;cz3");
        x.get(0, 2);
        x.get(1, 2);
        x.get(0, 3);
        x.turn(1);
        x.free(0, 100);
        x.send(0);
        CHECK.is("1 and 3 are empty", x.most(4), 10);
        CHECK.is("the lower one", x.get(0, 3), 201);
        CHECK.is("page 2 is full then", x.get(0, 3), 100);
        pageIs(x, 1, 1, 0, 1, 1, 1, 0, 0);
        listIs(x, 1, 0, 1);
        queueIs(x, 0, 1, 1);
        x.turn(1);
        CHECK.is("the last one", x.get(1, 1), 300);
        listIs(x, 3, 0, 1, 2, 3);
        pageIs(x, 3, 1, 1, 0, 1, 3, 0, 0);
    }

    private static void noRoom() {
        CHECK.said("None: it can't be (nothing is changed then, no PAGE is FULL by that).");
        HomeFreed x = Check.arena("st2p2u4b9h30;cz2;cz4");
        Check.gets(x, 0, 2, 2);
        x.get(1, 4);
        x.free(1, 0);
        String before = Shown.whole(x);
        CHECK.is("no page", x.get(0, 2), NONE);
        CHECK.is("no page of the other class", x.get(0, 4), NONE);
        CHECK.is("no page of the other thread", x.get(1, 2), NONE);
        CHECK.is("its only page has nothing", x.get(1, 4), NONE);
        CHECK.alike("as before", Shown.whole(x), before);
        pageIs(x, 0, 1, 0, 0, 2, 0, 0, 0);
        pageIs(x, 1, 1, 1, 1, 1, 0, 0, 0);
        statusIs(x, 0, 0, 0, 4);
        x.turn(0);
        before = Shown.whole(x);
        CHECK.is("an abandoned page without blocks in its lists", x.get(1, 2), NONE);
        CHECK.alike("as before", Shown.whole(x), before);
    }

    private static void howItWasGot() {
        CHECK.said("HOW a BLOCK was got: 0 READY at once in the first PAGE of the QUEUE, 1 there by what was LOCAL, "
                + "2 there by what was FOREIGN, 3 in a later PAGE, 4 ADOPTED, 5 EMPTY.");
        HomeFreed x = Check.arena("st2p3u4b1h30;cz2");
        how(x, 0, 0, 5);
        how(x, 0, 1, 0);
        x.free(1, 0);
        how(x, 0, 0, 2);
        x.free(0, 1);
        how(x, 0, 1, 1);
        x.free(1, 0);
        x.free(0, 1);
        how(x, 0, 1, 1);
        how(x, 0, 0, 2);
        how(x, 0, 100, 5);
        how(x, 0, 101, 0);
        x.free(0, 1);
        how(x, 0, 1, 3);
        x.free(0, 101);
        x.free(1, 100);
        CHECK.is("a later page by what is local", x.queue(0, 0, 1), 1);
        how(x, 0, 101, 3);
        how(x, 0, 100, 2);
        x.turn(0);
        x.free(1, 0);
        how(x, 1, 0, 4);
        CHECK.are("how, the latest first", Shown.logged(x, 2), 4, 2, 3, 3, 0, 5, 2, 1, 1, 2, 0, 5);
        CHECK.are("who by", Shown.logged(x, 1), 1, 0, 0, 0, 0, 0, 0, 0, 0, 0, 0, 0);
    }

    private static void how(HomeFreed x, int thread, int block, int how) {
        CHECK.is("would", x.would(thread, 2), how);
        CHECK.is("the block", x.get(thread, 2), block);
        CHECK.is("how " + block, x.log(0, 2), how);
    }

    private static void beats() {
        CHECK.said("Each BEAT-th GET that was done of a THREAD (counted from the first one; "
                + "it goes on if it ends and begins again) brings a TICK of it behind it.");
        HomeFreed each = Check.arena("st2p2u8b9h1;c");
        each.get(0, 1);
        each.get(0, 1);
        each.free(1, 0);
        CHECK.is("none yet", each.page(0, 6), 0);
        each.get(1, 1);
        CHECK.is("each get ticks", each.page(0, 6), 1);
        each.free(1, 1);
        each.get(1, 1);
        CHECK.is("each get ticks", each.page(0, 6), 2);
        HomeFreed last = Check.arena("st2p2u40b9h30;c");
        last.get(1, 1);
        last.free(0, 0);
        for (int i = 1; i <= 60; i++) {
            last.get(0, i <= 30 ? 1 : 2);
            last.get(0, 1);
            CHECK.is("the 30th and no earlier", last.thread(0, 3), last.thread(0, 2) < 30 ? 1 : 0);
        }
        CHECK.is("one page is all there was for it", last.thread(0, 2), 40);
        CHECK.is("too large ones do not count", last.status(1), 30);
        goesOn();
        behindIt();
    }

    private static void goesOn() {
        HomeFreed x = Check.arena("st2p4u8b9h3;c");
        x.get(1, 1);
        x.get(0, 1);
        x.get(0, 1);
        x.turn(0);
        x.turn(0);
        x.free(0, 0);
        CHECK.is("in its outbox", x.thread(0, 3), 1);
        CHECK.is("adopted", x.get(0, 1), 102);
        CHECK.is("the third get, though it ended", x.thread(0, 3), 0);
        x.get(1, 1);
        x.free(0, 1);
        Check.gets(x, 0, 1, 2);
        CHECK.is("the fifth", x.thread(0, 3), 1);
        x.undo();
        x.undo();
        Check.gets(x, 0, 1, 2);
        CHECK.is("the fifth again: gets are undone, too", x.thread(0, 3), 1);
        x.get(0, 9);
        CHECK.is("a refused one is none", x.thread(0, 3), 1);
        x.get(0, 1);
        CHECK.is("the sixth", x.thread(0, 3), 0);
        CHECK.is("gets", x.thread(0, 2), 6);
    }

    private static void behindIt() {
        HomeFreed x = Check.arena("st2p3u4b1h5;cz2");
        Check.gets(x, 0, 2, 4);
        x.free(1, 0);
        CHECK.is("page 0 is full, with one that is foreign", x.most(5), 1);
        CHECK.is("the tick comes too late for the fifth", x.get(0, 2), 200);
        CHECK.is("an empty page was taken", x.log(0, 2), 5);
        queueIs(x, 0, 0, 2, 0);
        CHECK.is("page 0 is back, page 1 is full", x.most(5), 2);
    }

    private static void freeByOwner() {
        CHECK.said("is it the OWNER: it comes to the front of LOCAL; is the PAGE FULL, it is QUEUED at the end");
        HomeFreed x = Check.arena("st1p3u4h30;c");
        Check.gets(x, 0, 1, 3);
        CHECK.is("local", x.free(0, 1), 0);
        CHECK.is("local", x.free(0, 0), 0);
        listIs(x, 0, 1, 0, 1);
        queueIs(x, 0, 0, 0);
        CHECK.is("one stays used, the queue as it was", x.page(0, 3), 1);
        Check.gets(x, 0, 1, 11);
        CHECK.is("two are full", x.most(5), 3);
        x.free(0, 100);
        x.free(0, 0);
        x.free(0, 101);
        queueIs(x, 0, 0, 2, 1, 0);
        listIs(x, 1, 1, 1, 0);
        CHECK.is("none is full", x.most(5), 0);
    }

    private static void emptyByFree() {
        CHECK.said("is nothing of the PAGE USED then, and is another PAGE in that QUEUE, it is EMPTY");
        HomeFreed x = Check.arena("st2p6u4b9h30;cz2;cz4");
        x.get(0, 2);
        x.get(0, 4);
        x.get(1, 2);
        CHECK.is("local", x.free(0, 0), 0);
        pageIs(x, 0, 1, 0, 0, 0, 1, 1, 0);
        CHECK.is("local", x.free(0, 100), 0);
        pageIs(x, 1, 1, 0, 1, 0, 0, 1, 0);
        Check.gets(x, 0, 2, 3);
        CHECK.is("page 0 is full, page 3 is queued", x.most(5), 1);
        CHECK.is("the only one of the queue", x.free(0, 300), 0);
        pageIs(x, 3, 1, 0, 0, 0, 1, 1, 0);
        CHECK.is("from full to the end of the queue", x.free(0, 1), 0);
        queueIs(x, 0, 0, 3, 0);
        CHECK.is("another one is there", x.free(0, 0), 0);
        pageIs(x, 0, 0, NONE, NONE, 0, 0, 0, 0);
        queueIs(x, 0, 0, 3);
        CHECK.is("an unused one stays till something happens to it", x.page(3, 3), 0);
        HomeFreed y = Check.arena("st2p3u4b9h30;cz4");
        Check.gets(y, 0, 4, 2);
        CHECK.is("a full page of one block is empty at once", y.free(0, 0), 0);
        pageIs(y, 0, 0, NONE, NONE, 0, 0, 0, 0);
        queueIs(y, 0, 0, 1);
        HomeFreed z = Check.arena("st2p3u4b9h30;cz2");
        Check.gets(z, 0, 2, 3);
        z.free(1, 0);
        CHECK.is("one is in an outbox, so it is used", z.free(0, 1), 0);
        pageIs(z, 0, 1, 0, 0, 1, 0, 1, 0);
    }

    private static void freeByOthers() {
        CHECK.said("Else it comes to the front of the THREAD's OUTBOX for that PAGE; are these as many as BATCH then, "
                + "they GO HOME");
        for (int batch = 1; batch <= 9; batch++) {
            HomeFreed x = Check.arena("st3p2u12b" + batch + "h30;c;cz2");
            Check.gets(x, 0, 1, 10);
            Check.gets(x, 0, 2, 1);
            x.free(1, 100);
            int[] want = new int[batch];
            for (int i = 0; i < batch; i++) {
                CHECK.is("batch " + batch + " at " + i, x.free(1, i), i == batch - 1 ? 2 : 1);
                want[batch - 1 - i] = i;
            }
            outboxIs(x, 1, 0);
            CHECK.is("the other page's outbox does not count", x.thread(1, 3), batch == 1 ? 0 : 1);
            listIs(x, 0, 2, want);
            CHECK.is("another thread's does not count", x.free(2, 9), batch == 1 ? 2 : 1);
        }
        CHECK.said("FREE: 0 it is LOCAL then (or its PAGE EMPTY), 1 in an OUTBOX, 2 it went HOME.");
        HomeFreed x = Check.arena("st2p2u4b2h30;c");
        Check.gets(x, 0, 1, 2);
        CHECK.is("an outbox", x.free(1, 1), 1);
        CHECK.is("home", x.free(1, 0), 2);
        CHECK.is("nothing is used, but it is owned", x.page(0, 0), 1);
        Check.gets(x, 0, 1, 5);
        CHECK.is("local", x.free(0, 100), 0);
        Check.gets(x, 0, 1, 4);
        for (int b = 0; b < 3; b++) {
            CHECK.is("local", x.free(0, b), 0);
        }
        CHECK.is("its page is empty", x.free(0, 3), 0);
        CHECK.is("its page is empty", x.page(0, 0), 0);
        x.turn(0);
        for (int b = 100; b < 103; b++) {
            CHECK.is("an outbox, or home", x.free(1, b), b == 101 ? 2 : 1);
        }
        CHECK.is("home, though its page is empty by that", x.free(1, 103), 2);
        CHECK.is("its page is empty", x.page(1, 0), 0);
    }

    private static void goingHome() {
        CHECK.said("all of them, as they are, come ahead of what is FOREIGN");
        HomeFreed x = Check.arena("st3p1u8b3h30;c");
        Check.gets(x, 0, 1, 8);
        x.free(1, 5);
        x.free(1, 0);
        x.free(1, 3);
        listIs(x, 0, 2, 3, 0, 5);
        x.free(2, 1);
        x.free(2, 7);
        outboxIs(x, 2, 0, 7, 1);
        x.free(2, 2);
        listIs(x, 0, 2, 2, 7, 1, 3, 0, 5);
        x.free(1, 4);
        x.send(1);
        listIs(x, 0, 2, 4, 2, 7, 1, 3, 0, 5);
        CHECK.is("one is held", x.page(0, 3), 1);
    }

    private static void abandonedAndUnused() {
        CHECK.said("is the PAGE ABANDONED and nothing of it USED then, it is EMPTY");
        for (int by = 0; by < 4; by++) {
            HomeFreed x = Check.arena("st3p2u4b" + (by == 0 ? 2 : 9) + "h1;cz2");
            Check.gets(x, 0, 2, 2);
            x.turn(0);
            CHECK.is("in an outbox", x.free(1, 0), 1);
            pageIs(x, 0, 3, NONE, 0, 2, 0, 0, 0);
            CHECK.is("the last one", x.free(1, 1), by == 0 ? 2 : 1);
            CHECK.is("by its batch, or not yet", x.page(0, 0), by == 0 ? 0 : 3);
            if (by == 1) {
                CHECK.is("by a send", x.send(1), 2);
            } else if (by == 2) {
                CHECK.is("by a tick", x.tick(1), 0);
            } else if (by == 3) {
                CHECK.is("by its end", x.turn(1), 0);
            }
            pageIs(x, 0, 0, NONE, NONE, 0, 0, 0, 0);
            CHECK.is("none is anywhere", x.most(8), 0);
        }
        HomeFreed y = Check.arena("st3p2u4b1h30;cz2");
        Check.gets(y, 0, 2, 2);
        y.turn(0);
        CHECK.is("one is used still", y.free(1, 0), 2);
        pageIs(y, 0, 3, NONE, 0, 1, 0, 0, 1);
        CHECK.is("none is", y.free(2, 1), 2);
        pageIs(y, 0, 0, NONE, NONE, 0, 0, 0, 0);
        // the tick of a get may empty it, too
        HomeFreed z = Check.arena("st2p2u4b9h2;cz4");
        z.get(0, 4);
        z.turn(0);
        z.get(1, 4);
        z.free(1, 0);
        CHECK.is("no room yet, so there is no tick", z.get(1, 4), NONE);
        CHECK.is("sent", z.send(1), 1);
        CHECK.is("room", z.get(1, 4), 0);
    }

    private static void emptied() {
        CHECK.said("(EMPTY: its lists are gone, it leaves its QUEUE; its next OWNER is new.)");
        HomeFreed x = Check.arena("st2p2u8b9h30;c;cz3");
        Check.gets(x, 0, 1, 8);
        x.free(0, 6);
        x.free(0, 2);
        x.turn(0);
        Check.gets(x, 1, 1, 1);
        for (int b : new int[] {2, 0, 1, 3, 4, 5, 7}) {
            x.free(1, b);
        }
        CHECK.is("unused, but alone", x.page(0, 0), 1);
        x.turn(1);
        pageIs(x, 0, 0, NONE, NONE, 0, 0, 0, 0);
        queueIs(x, 1, 0);
        for (int which = 0; which < 3; which++) {
            listIs(x, 0, which);
        }
        CHECK.is("it has no block", x.held(0), NONE);
        CHECK.is("it has no block", x.where(0, 0), NONE);
        x.turn(0);
        CHECK.is("of another class then", x.get(0, 3), 0);
        pageIs(x, 0, 1, 0, 1, 1, 1, 0, 0);
        CHECK.is("it has two blocks", x.held(2), NONE);
        listIs(x, 0, 0, 1);
        usedAnew();
    }

    /** What was in its lists is not among what comes to them later. */
    private static void usedAnew() {
        HomeFreed x = Check.arena("st2p2u4b2h30;c");
        Check.gets(x, 0, 1, 5);
        x.free(1, 2);
        x.free(1, 3);
        x.free(0, 1);
        x.free(0, 0);
        pageIs(x, 0, 0, NONE, NONE, 0, 0, 0, 0);
        Check.gets(x, 1, 1, 4);
        pageIs(x, 0, 1, 1, 0, 4, 0, 0, 0);
        x.free(1, 3);
        listIs(x, 0, 1, 3);
        CHECK.is("local", x.get(1, 1), 3);
        x.free(0, 0);
        x.free(0, 2);
        listIs(x, 0, 2, 2, 0);
        CHECK.is("foreign", x.get(1, 1), 2);
        CHECK.is("foreign", x.get(1, 1), 0);
        CHECK.is("no more", x.get(1, 1), NONE);
        for (int b = 0; b < 4; b++) {
            CHECK.is("held " + b, x.held(b), 1);
        }
        CHECK.is("held in all", x.most(7), 5);
        CHECK.is("none is lost", x.most(11), 0);
    }

    private static void sending() {
        CHECK.said("SEND by a THREAD: all its OUTBOXES GO HOME, PAGES rising (empty ones: nothing).");
        HomeFreed x = Check.arena("st3p4u4b9h30;c;cz2;cz4");
        Check.gets(x, 0, 1, 4);
        Check.gets(x, 0, 2, 2);
        x.get(0, 4);
        CHECK.is("nothing to send", x.send(1), 0);
        x.free(1, 200);
        x.free(1, 100);
        x.free(1, 101);
        x.free(1, 3);
        x.free(2, 0);
        CHECK.is("all of its own", x.send(1), 4);
        listIs(x, 0, 2, 3);
        listIs(x, 1, 2, 1, 0);
        listIs(x, 2, 2, 0);
        outboxIs(x, 2, 0, 0);
        CHECK.is("again: nothing", x.send(1), 0);
        CHECK.is("of the others: nothing", x.send(0), 0);
        CHECK.is("of 2", x.send(2), 1);
        listIs(x, 0, 2, 0, 3);
        CHECK.is("an owned page is not empty by that", x.page(2, 0), 1);
        // pages 0 and 1 are abandoned, and both are empty by one send
        HomeFreed y = Check.arena("st2p2u4b9h30;cz4");
        Check.gets(y, 0, 4, 2);
        y.turn(0);
        y.free(1, 100);
        y.free(1, 0);
        CHECK.is("both", y.send(1), 2);
        CHECK.is("both", y.most(4), 3);
    }

    private static void ticks() {
        CHECK.said("TICK of a THREAD: it SENDS; then its FULL PAGES, rising, that have anything LOCAL or FOREIGN "
                + "are QUEUED at the end");
        HomeFreed x = Check.arena("st2p5u4b9h30;cz2");
        Check.gets(x, 0, 2, 9);
        CHECK.is("full", x.most(5), 15);
        x.free(1, 300);
        x.free(1, 100);
        x.free(1, 0);
        CHECK.is("1 owns nothing", x.tick(1), 0);
        CHECK.is("it sent", x.most(10), 3);
        CHECK.is("but queued nothing of 0", x.most(5), 15);
        CHECK.is("pages", x.tick(0), 5);
        queueIs(x, 0, 0, 4, 0, 1, 3);
        CHECK.is("one without any stays full", x.most(5), 4);
        CHECK.is("again: nothing", x.tick(0), 5);
        queueIs(x, 0, 0, 4, 0, 1, 3);
        // it sends first: what was in its own outbox for a page that it adopted
        HomeFreed y = Check.arena("st2p3u4b9h30;cz2");
        Check.gets(y, 0, 2, 2);
        y.free(1, 0);
        y.turn(0);
        y.turn(0);
        y.free(0, 1);
        y.send(0);
        CHECK.is("adopted", y.get(1, 2), 1);
        CHECK.is("another page", y.get(1, 2), 100);
        CHECK.is("full", y.most(5), 1);
        CHECK.is("two pages", y.tick(1), 2);
        queueIs(y, 1, 0, 1, 0);
        listIs(y, 0, 2, 0);
    }

    private static void ticksThatEmpty() {
        CHECK.said("then its QUEUED PAGES, rising, of which nothing is USED, if another PAGE is in that QUEUE, are EMPTY");
        HomeFreed x = Check.arena("st2p6u4b1h30;cz2;cz4");
        Check.gets(x, 0, 2, 5);
        x.get(0, 4);
        x.get(1, 4);
        for (int b : new int[] {0, 1, 100, 101, 200, 300}) {
            x.free(1, b);
        }
        CHECK.is("pages 0 and 1 are full, nothing is used", x.most(5), 3);
        CHECK.is("the highest of each queue stays", x.tick(0), 2);
        queueIs(x, 0, 0, 2);
        queueIs(x, 0, 1, 3);
        CHECK.is("empty", x.most(4), 1 + 2 + 32);
        CHECK.is("again: nothing", x.tick(0), 2);
        CHECK.is("the other thread's page is as it was", x.page(4, 0), 1);
        // rising by number, not by place
        HomeFreed y = Check.arena("st2p3u4b1h30;cz2");
        Check.gets(y, 0, 2, 3);
        y.free(0, 0);
        queueIs(y, 0, 0, 1, 0);
        y.free(1, 1);
        y.free(1, 100);
        pageIs(y, 0, 1, 0, 0, 0, 0, 1, 1);
        pageIs(y, 1, 1, 0, 0, 0, 1, 0, 1);
        CHECK.is("one is left", y.tick(0), 1);
        queueIs(y, 0, 0, 1);
        HomeFreed z = Check.arena("st2p3u4b1h30;cz2");
        Check.gets(z, 0, 2, 1);
        z.free(1, 0);
        CHECK.is("alone it stays", z.tick(0), 1);
        pageIs(z, 0, 1, 0, 0, 0, 1, 0, 1);
        Check.gets(z, 0, 2, 3);
        z.free(1, 0);
        z.free(1, 1);
        CHECK.is("full, queued and empty by one tick", z.tick(0), 1);
        CHECK.is("the used one stays", z.most(6), 2);
    }

    private static void threadsThatEnd() {
        CHECK.said("A THREAD that ends: it SENDS; then its PAGES, rising: nothing is USED: EMPTY; "
                + "else ABANDONED (it leaves its QUEUE).");
        HomeFreed x = Check.arena("st2p6u4b9h30;cz2;cz4");
        Check.gets(x, 0, 2, 4);
        x.get(0, 4);
        x.get(1, 4);
        x.free(0, 300);
        x.free(0, 200);
        CHECK.is("0 full, 1 and 2 queued, 3 of the other", x.most(5), 1);
        CHECK.is("it ends", x.turn(0), 0);
        CHECK.is("it sent", x.page(3, 6), 1);
        pageIs(x, 0, 3, NONE, 0, 2, 0, 0, 0);
        pageIs(x, 1, 3, NONE, 0, 2, 0, 0, 0);
        pageIs(x, 2, 0, NONE, NONE, 0, 0, 0, 0);
        queueIs(x, 0, 0);
        queueIs(x, 0, 1);
        queueIs(x, 1, 1, 3);
        CHECK.said("It does not live then; HELD BLOCKS stay HELD.");
        CHECK.are("thread", Shown.thread(x, 0), 0, 0, 5, 0);
        for (int b : new int[] {0, 1, 100, 101}) {
            CHECK.is("held " + b, x.held(b), 1);
        }
        // the last use of its own page was its own outbox: it sends first, so the page is empty
        HomeFreed y = Check.arena("st2p2u4b9h30;cz2");
        Check.gets(y, 0, 2, 1);
        y.free(1, 0);
        y.turn(0);
        CHECK.is("adopted", y.get(1, 2), 1);
        CHECK.is("local", y.free(1, 1), 0);
        pageIs(y, 0, 1, 1, 0, 1, 0, 1, 0);
        y.turn(1);
        pageIs(y, 0, 0, NONE, NONE, 0, 0, 0, 0);
        HomeFreed z = Check.arena("st1p1u4h30;c");
        CHECK.is("one without pages may end", z.turn(0), 0);
        CHECK.is("nobody lives", z.most(2), 0);
    }

    private static void threadsThatBeginAgain() {
        CHECK.said("If it begins again, it lives, without PAGES.");
        HomeFreed x = Check.arena("st1p3u4b9h30;cz2");
        Check.gets(x, 0, 2, 3);
        x.turn(0);
        CHECK.is("it begins", x.turn(0), 1);
        CHECK.are("thread", Shown.thread(x, 0), 1, 0, 3, 0);
        CHECK.is("abandoned still", x.most(3), 3);
        CHECK.is("its own block is another's now", x.free(0, 0), 1);
        CHECK.is("adopted", x.get(0, 2), 101);
        CHECK.is("how", x.log(0, 2), 4);
        queueIs(x, 0, 0, 1);
        for (int i = 0; i < 4; i++) {
            CHECK.is("again and again", x.turn(0), i % 2);
        }
        CHECK.is("sent by its end", x.page(0, 6), 1);
    }

    private static void refusedGets() {
        CHECK.said("GET: the BLOCK. NONE: no such THREAD (STATUS 0), n out of bounds (1 .. 40), too large (1), "
                + "it does not live (2), no room (3).");
        HomeFreed x = Check.arena("st3p1u16b9h30;cz9");
        for (int t : new int[] {Integer.MIN_VALUE, -1, 3, 4, Integer.MAX_VALUE}) {
            CHECK.is("thread " + t, x.get(t, 1), NONE);
        }
        statusIs(x, 5, 0, 0, 0);
        for (int n : new int[] {Integer.MIN_VALUE, -1, 0, 10, 16, 17, 40, 41, Integer.MAX_VALUE}) {
            CHECK.is("n " + n, x.get(2, n), NONE);
        }
        statusIs(x, 5, 9, 0, 0);
        CHECK.is("the greatest n", x.get(2, 9), 0);
        CHECK.is("no room", x.get(2, 1), NONE);
        CHECK.is("no room", x.get(0, 1), NONE);
        statusIs(x, 5, 9, 0, 2);
        x.turn(1);
        CHECK.is("dead, and no room", x.get(1, 1), NONE);
        statusIs(x, 5, 9, 1, 2);
        CHECK.said("of several the first");
        CHECK.is("dead, and too large", x.get(1, 10), NONE);
        CHECK.is("dead, and out of bounds", x.get(1, 0), NONE);
        statusIs(x, 5, 11, 1, 2);
        CHECK.is("no such thread, and too large", x.get(3, 41), NONE);
        statusIs(x, 6, 11, 1, 2);
    }

    private static void refusedFrees() {
        CHECK.said("NONE: no such THREAD, BLOCK (STATUS 0), the THREAD does not live, the BLOCK is not HELD (2).");
        HomeFreed x = Check.arena("st3p2u7b9h30;cz2");
        Check.gets(x, 0, 2, 2);
        for (int t : new int[] {Integer.MIN_VALUE, -1, 3, Integer.MAX_VALUE}) {
            CHECK.is("thread " + t, x.free(t, 0), NONE);
        }
        statusIs(x, 4, 0, 0, 0);
        for (int b : new int[] {Integer.MIN_VALUE, -100, -1, 3, 99, 100, 101, 200, 1600, Integer.MAX_VALUE}) {
            CHECK.is("block " + b, x.free(0, b), NONE);
        }
        statusIs(x, 14, 0, 0, 0);
        CHECK.is("ready", x.free(0, 2), NONE);
        x.free(0, 0);
        CHECK.is("local", x.free(0, 0), NONE);
        x.free(1, 1);
        CHECK.is("in an outbox, by another", x.free(0, 1), NONE);
        CHECK.is("in its own outbox", x.free(1, 1), NONE);
        x.send(1);
        CHECK.is("foreign", x.free(1, 1), NONE);
        statusIs(x, 14, 0, 5, 0);
        x.get(0, 1);
        x.turn(2);
        CHECK.is("held, but it is dead", x.free(2, 2), NONE);
        CHECK.is("both", x.free(2, 1), NONE);
        statusIs(x, 14, 0, 7, 0);
        CHECK.said("of several the first");
        CHECK.is("dead, and no such block", x.free(2, 3), NONE);
        CHECK.is("no such thread, and not held", x.free(3, 1), NONE);
        statusIs(x, 16, 0, 7, 0);
    }

    private static void refusedOthers() {
        CHECK.said("TICK: how many PAGES it owns then. NONE: no such THREAD (STATUS 0), it does not live (2).");
        HomeFreed x = Check.arena("st2p2u4;c");
        x.turn(1);
        int many = 0;
        for (int t : new int[] {Integer.MIN_VALUE, -1, 2, 4, Integer.MAX_VALUE}) {
            CHECK.is("tick " + t, x.tick(t), NONE);
            CHECK.is("send " + t, x.send(t), NONE);
            CHECK.is("turn " + t, x.turn(t), NONE);
            many += 3;
            statusIs(x, many, 0, 0, 0);
        }
        CHECK.is("dead", x.tick(1), NONE);
        statusIs(x, many, 0, 1, 0);
        CHECK.said("SEND: how many went HOME. NONE: no such THREAD (STATUS 0), it does not live (2).");
        CHECK.is("dead", x.send(1), NONE);
        statusIs(x, many, 0, 2, 0);
        CHECK.said("A THREAD ends, or begins again: whether it lives then (1, 0). NONE: no such THREAD (STATUS 0).");
        CHECK.is("one that does not live is no reason", x.turn(1), 1);
        statusIs(x, many, 0, 2, 0);
        CHECK.is("acts", x.count(4), 2);
    }

    private static void askedOutOfBounds() {
        int[] far = {Integer.MIN_VALUE, -101, -17, -2, -1, 17, 100, 101, Integer.MAX_VALUE};
        HomeFreed x = Check.arena("st2p2u8b9h30;c;cz2");
        Check.gets(x, 0, 1, 2);
        Check.gets(x, 1, 2, 2);
        x.free(1, 0);
        x.free(0, 100);
        for (int odd : far) {
            CHECK.said("0 THREADS, 1 PAGES, 2 UNITS, 3 BATCH, 4 BEAT. NONE: no ARENA, no such what.");
            CHECK.is("rule " + odd, x.rule(odd), NONE);
            CHECK.said("SIZE of a CLASS. NONE: no such one.");
            CHECK.is("size " + odd, x.size(odd), NONE);
            CHECK.said("NoSuchElementException: no such ones.");
            CHECK.throwsNoSuch("page " + odd, x, odd, 0);
            CHECK.throwsNoSuch("what " + odd, x, 0, odd);
            CHECK.said("0 READY, 1 LOCAL, 2 FOREIGN. NONE: no such ones.");
            CHECK.is("page " + odd, x.list(odd, 0, 0), NONE);
            CHECK.is("which " + odd, x.list(0, odd, 0), NONE);
            CHECK.is("i " + odd, x.list(0, 0, odd), NONE);
            CHECK.said("3 how many BLOCKS are in its OUTBOXES. NONE: no such ones.");
            CHECK.is("thread " + odd, x.thread(odd, 0), NONE);
            CHECK.is("what " + odd, x.thread(0, odd), NONE);
            CHECK.said("The i-th PAGE in the QUEUE of a THREAD for a CLASS. NONE: no such ones.");
            CHECK.is("thread " + odd, x.queue(odd, 0, 0), NONE);
            CHECK.is("class " + odd, x.queue(0, odd, 0), NONE);
            CHECK.is("i " + odd, x.queue(0, 0, odd), NONE);
            CHECK.said("in the OUTBOX of a THREAD for a PAGE. NONE: no such ones.");
            CHECK.is("thread " + odd, x.outbox(odd, 0, 0), NONE);
            CHECK.is("page " + odd, x.outbox(1, odd, 0), NONE);
            CHECK.is("i " + odd, x.outbox(1, 0, odd), NONE);
        }
        justBehind(x);
        besideOthers();
    }

    /** Numbers out of bounds do not lead to the lists of other PAGES, to QUEUES and OUTBOXES of other THREADS. */
    private static void besideOthers() {
        HomeFreed x = Check.arena("st4p16u4b9h30;c;cz2;cz3;cz4");
        Check.gets(x, 1, 1, 3);
        x.free(1, 1);
        x.free(2, 2);
        x.send(2);
        x.free(0, 0);
        Check.gets(x, 2, 2, 2);
        x.free(0, 100);
        Check.gets(x, 3, 4, 1);
        x.free(0, 200);
        CHECK.said("0 READY, 1 LOCAL, 2 FOREIGN. NONE: no such ones.");
        for (int which = 0; which < 3; which++) {
            CHECK.is("page 0 has one of each", Shown.list(x, 0, which).length, 1);
            CHECK.is("not page 0's", x.list(1, which - 3, 0), NONE);
            CHECK.is("not page 0's", x.list(-1, which + 3, 0), NONE);
            CHECK.is("no outbox", x.list(16, which, 0), NONE);
            CHECK.is("no outbox", x.list(15, which + 3, 0), NONE);
        }
        CHECK.said("in the OUTBOX of a THREAD for a PAGE. NONE: no such ones.");
        CHECK.is("not thread 0's", x.outbox(1, -16, 0), NONE);
        CHECK.is("not thread 0's", x.outbox(-1, 16, 0), NONE);
        CHECK.is("not a list", x.outbox(0, -48, 0), NONE);
        CHECK.said("The i-th PAGE in the QUEUE of a THREAD for a CLASS. NONE: no such ones.");
        CHECK.is("not thread 1's", x.queue(0, 6, 0), NONE);
        CHECK.is("not thread 1's", x.queue(2, -6, 0), NONE);
        CHECK.is("not thread 1's", x.queue(0, 4, 0), NONE);
        CHECK.said("FOREIGN: how many there are in FOREIGN lists.");
        CHECK.is("one, though 0 has an outbox for page 2", x.most(10), 1);
        CHECK.said("whose OUTBOX (else NONE); by how many more BLOCKS in that OUTBOX it would GO HOME (else NONE)");
        CHECK.is("thread 0's for page 0", x.where(0, 2), 0);
        CHECK.is("thread 0's for page 0", x.where(0, 3), 8);
    }

    private static void justBehind(HomeFreed x) {
        CHECK.said("no such what.");
        CHECK.is("rule 4", x.rule(4), 30);
        CHECK.is("rule 5", x.rule(5), NONE);
        CHECK.said("no such one.");
        CHECK.is("size 1", x.size(1), 2);
        CHECK.is("size 2", x.size(2), NONE);
        CHECK.said("NoSuchElementException: no such ones.");
        CHECK.is("page(1, 6)", x.page(1, 6), 0);
        CHECK.throwsNoSuch("page(2, 0)", x, 2, 0);
        CHECK.throwsNoSuch("page(1, 7)", x, 1, 7);
        CHECK.throwsNoSuch("page(15, 0)", x, 15, 0);
        CHECK.said("NONE: no such ones.");
        CHECK.is("list(0, 0, 5)", x.list(0, 0, 5), 7);
        CHECK.is("list(0, 0, 6)", x.list(0, 0, 6), NONE);
        CHECK.is("list(2, 0, 0)", x.list(2, 0, 0), NONE);
        CHECK.is("list(0, 3, 0)", x.list(0, 3, 0), NONE);
        CHECK.is("thread(1, 3)", x.thread(1, 3), 1);
        CHECK.is("thread(1, 4)", x.thread(1, 4), NONE);
        CHECK.is("thread(2, 0)", x.thread(2, 0), NONE);
        CHECK.is("queue(0, 0, 0)", x.queue(0, 0, 0), 0);
        CHECK.is("queue(0, 0, 1)", x.queue(0, 0, 1), NONE);
        CHECK.is("queue(2, 0, 0)", x.queue(2, 0, 0), NONE);
        CHECK.is("queue(0, 2, 0)", x.queue(0, 2, 0), NONE);
        CHECK.is("outbox(1, 0, 0)", x.outbox(1, 0, 0), 0);
        CHECK.is("outbox(1, 0, 1)", x.outbox(1, 0, 1), NONE);
        CHECK.is("outbox(2, 0, 0)", x.outbox(2, 0, 0), NONE);
        CHECK.is("outbox(0, 2, 0)", x.outbox(0, 2, 0), NONE);
        CHECK.said("NONE: no such BLOCK (a PAGE that is EMPTY has none).");
        CHECK.is("the last of page 0", x.held(7), 0);
        CHECK.is("behind it", x.held(8), NONE);
        CHECK.is("behind all pages", x.held(200), NONE);
        HomeFreed y = Check.arena("sp2;c");
        CHECK.is("an empty page", y.held(0), NONE);
        CHECK.is("an empty page", y.held(100), NONE);
    }
}
