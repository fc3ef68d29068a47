/** Each promise by itself, with answers that were worked out by hand from the document. */
public final class PromisesTest {
    private static final int NONE = HomeFreed.NONE;
    private static final int HIDDEN = HomeFreed.HIDDEN;
    private static final Check CHECK = new Check();
    private static String promise = "";

    private static void is(String what, long got, long want) {
        CHECK.same(promise + ": " + what, got, want);
    }

    private static void promise(String name) {
        promise = name;
    }

    public static void main(String[] args) {
        newObject();
        feed();
        end();
        fault();
        text();
        ruleAndSize();
        page();
        listsAndOutbox();
        thread();
        queue();
        held();
        get();
        getTicks();
        free();
        freeOfAbandoned();
        tick();
        send();
        turn();
        perform();
        scopes();
        years();
        status();
        undo();
        log();
        step();
        waste();
        classes();
        would();
        where();
        series();
        cheapest();
        run();
        ways();
        shares();
        most();
        images();
        count();
        CHECK.close("PromisesTest");
    }

    private static void newObject() {
        promise("1");
        is("NONE", NONE, -1);
        is("HIDDEN", HIDDEN, -1000000);
        HomeFreed x = new HomeFreed();
        for (int what = 0; what < 5; what++) {
            is("count " + what, x.count(what), 0);
            is("rule " + what, x.rule(what), NONE);
        }
        for (int what = 0; what < 4; what++) {
            is("status", x.status(what), 0);
        }
        is("most", x.most(7), HIDDEN);
        is("undo", x.undo(), NONE);
        CHECK.throwsNoSuch("1: page(0, 0)", x, 0, 0);
    }

    private static void feed() {
        promise("2");
        HomeFreed x = new HomeFreed();
        is("nothing", x.feed(0, 0, 0, 0, 0), 0);
        is("noughts left out", x.feed('c' << 24, 'z', '1' << 16, 0, '6' << 8), 4);
        is("highest first", x.text(0), 1);
        is("size", x.size(0), 16);
        for (int i = 1; i <= 12; i++) {
            is("twenty", x.feed(-1, -1, -1, -1, -1), 20 * i);
        }
        is("no more", x.feed(0, 0, 0, 0, 0), 240);
        is("one too many", x.feed(0, 0, 0, 0, 1), NONE);
        is("as it was", x.count(2), 240);
        x.end(239);
        is("two too many", x.feed(0, 0, 1, 0, 1), NONE);
        is("as it was", x.count(2), 239);
        is("the last one", x.feed(0, 0, 0, 255, 0), 240);
    }

    private static void end() {
        promise("3");
        HomeFreed x = new HomeFreed();
        is("none of none", x.end(0) ? 1 : 0, 1);
        is("one of none", x.end(1) ? 1 : 0, 0);
        Check.feed(x, "cz2;cz4x");
        is("negative", x.end(-1) ? 1 : 0, 0);
        is("too many", x.end(9) ? 1 : 0, 0);
        is("as it was", x.count(2), 8);
        is("all", x.end(8) ? 1 : 0, 1);
        is("all stay", x.count(2), 8);
        is("seven", x.end(7) ? 1 : 0, 1);
        is("the first ones stay", x.text(0), 2);
    }

    private static void fault() {
        promise("4");
        HomeFreed x = new HomeFreed();
        is("sort", x.fault(2), -2);
        is("sort", x.fault(-1), -2);
        Check.feed(x, "g0:1");
        is("arena", x.fault(0), 0);
        is("script", x.fault(1), NONE);
        is("the tape stays", x.count(2), 4);
    }

    private static void text() {
        promise("5");
        HomeFreed x = Check.arena("cz2;cz4");
        is("tape is empty", x.count(2), 0);
        for (int i = 0; i < 4; i++) {
            is("script", Check.tell(x, "g0:1;x0", 1), i);
        }
        is("a fifth script", Check.tell(x, "g0:1", 1), NONE);
        is("tape stays", x.count(2), 4);
        is("sort", x.text(2), NONE);
        is("fault", x.text(0), NONE);
        is("tape stays", x.count(2), 4);
        x.get(0, 1);
        x.get(1, 3);
        x.turn(1);
        x.get(0, 41);
        x.image();
        is("another arena", Check.tell(x, "st3;cz3", 0), 1);
        is("pages", x.most(4), 63);
        is("held", x.most(7), 0);
        is("living", x.most(2), 7);
        is("gets", x.thread(0, 2), 0);
        is("log", x.count(3), 0);
        is("acts", x.count(4), 0);
        is("undo", x.undo(), NONE);
        is("image", x.back(), NONE);
        is("scripts stay", x.count(1), 4);
        is("status stays", x.status(1), 1);
        is("queue", x.queue(0, 0, 0), NONE);
        is("first block", x.get(0, 1), 0);
    }

    private static void ruleAndSize() {
        promise("6");
        HomeFreed x = Check.arena("c");
        int[] usual = {2, 6, 16, 3, 8};
        HomeFreed y = Check.arena("cz3;cz7;sh30b9u40p16t4;cz40");
        int[] told = {4, 16, 40, 9, 30};
        for (int what = 0; what < 5; what++) {
            is("usual " + what, x.rule(what), usual[what]);
            is("told " + what, y.rule(what), told[what]);
        }
        is("what", y.rule(5), NONE);
        is("what", y.rule(-1), NONE);
        promise("7");
        is("usual", x.size(0), 1);
        is("no second", x.size(1), NONE);
        is("third", y.size(2), 40);
        is("first", y.size(0), 3);
        is("negative", y.size(-1), NONE);
        is("fourth", y.size(3), NONE);
    }

    private static void page() {
        promise("8");
        HomeFreed x = Check.arena("st2p3u7b2;cz2;cz3");
        pageIs(x, 0, 0, NONE, NONE, 0, 0, 0, 0);
        x.get(1, 3);
        pageIs(x, 0, 1, 1, 1, 1, 1, 0, 0);
        x.get(1, 3);
        x.get(1, 3);
        pageIs(x, 0, 2, 1, 1, 2, 0, 0, 0);
        pageIs(x, 1, 1, 1, 1, 1, 1, 0, 0);
        x.free(1, 1);
        pageIs(x, 0, 1, 1, 1, 1, 0, 1, 0);
        x.free(0, 0);
        pageIs(x, 0, 1, 1, 1, 1, 0, 1, 0);
        x.send(0);
        pageIs(x, 0, 1, 1, 1, 0, 0, 1, 1);
        x.turn(1);
        pageIs(x, 0, 0, NONE, NONE, 0, 0, 0, 0);
        pageIs(x, 1, 3, NONE, 1, 1, 1, 0, 0);
        CHECK.throwsNoSuch("8: page(3, 0)", x, 3, 0);
        CHECK.throwsNoSuch("8: page(-1, 0)", x, -1, 0);
        CHECK.throwsNoSuch("8: page(0, 7)", x, 0, 7);
        CHECK.throwsNoSuch("8: page(0, -1)", x, 0, -1);
    }

    private static void pageIs(HomeFreed x, int page, int... want) {
        for (int what = 0; what < 7; what++) {
            is("page " + page + " " + what, x.page(page, what), want[what]);
        }
    }

    private static void listsAndOutbox() {
        HomeFreed x = Check.arena("st3p2u6b3h30;c");
        for (int i = 0; i < 5; i++) {
            x.get(0, 1);
        }
        x.free(0, 1);
        x.free(0, 3);
        x.free(1, 0);
        x.free(1, 2);
        promise("12");
        is("front", x.outbox(1, 0, 0), 2);
        is("behind", x.outbox(1, 0, 1), 0);
        is("no third", x.outbox(1, 0, 2), NONE);
        is("negative", x.outbox(1, 0, -1), NONE);
        is("another page", x.outbox(1, 1, 0), NONE);
        is("another thread", x.outbox(2, 0, 0), NONE);
        is("no such thread", x.outbox(3, 0, 0), NONE);
        is("no such page", x.outbox(1, 2, 0), NONE);
        is("it goes home", x.free(1, 4), 2);
        is("box is empty", x.outbox(1, 0, 0), NONE);
        promise("9");
        is("ready", x.list(0, 0, 0), 5);
        is("no second", x.list(0, 0, 1), NONE);
        is("local", x.list(0, 1, 0), 3);
        is("local behind", x.list(0, 1, 1), 1);
        is("foreign", x.list(0, 2, 0), 4);
        is("foreign", x.list(0, 2, 1), 2);
        is("foreign", x.list(0, 2, 2), 0);
        is("no fourth", x.list(0, 2, 3), NONE);
        is("which", x.list(0, 3, 0), NONE);
        is("which", x.list(0, -1, 0), NONE);
        is("page", x.list(2, 0, 0), NONE);
        is("page", x.list(-1, 0, 0), NONE);
        is("empty page", x.list(1, 0, 0), NONE);
        is("i", x.list(0, 0, -1), NONE);
        HomeFreed y = Check.arena("st3p2u6b3h30;c;cz2;cz3;cz4;cz5;cz6");
        y.get(0, 6);
        y.get(1, 1);
        y.free(2, 100);
        is("not the next page's list", y.list(0, 3, 0), NONE);
        is("not the page's ahead", y.list(1, -3, 0), NONE);
        promise("12");
        is("not another thread's outbox", y.outbox(1, 17, 0), NONE);
        is("not another thread's outbox", y.outbox(3, -15, 0), NONE);
        promise("11");
        is("not the next thread's queue", y.queue(0, 6, 0), NONE);
        is("not the queue of the thread ahead", y.queue(1, -1, 0), NONE);
    }

    private static void thread() {
        promise("10");
        HomeFreed x = Check.arena("st2p4u4b3;c;cz2");
        x.get(0, 1);
        x.get(0, 2);
        x.get(0, 2);
        x.get(0, 2);
        x.free(1, 0);
        x.free(1, 100);
        is("lives", x.thread(0, 0), 1);
        is("pages", x.thread(0, 1), 3);
        is("gets", x.thread(0, 2), 4);
        is("out", x.thread(0, 3), 0);
        is("out", x.thread(1, 3), 2);
        is("pages", x.thread(1, 1), 0);
        is("what", x.thread(0, 4), NONE);
        is("what", x.thread(0, -1), NONE);
        is("thread", x.thread(2, 0), NONE);
        is("thread", x.thread(-1, 0), NONE);
        x.turn(0);
        is("ended", x.thread(0, 0), 0);
        is("no pages", x.thread(0, 1), 0);
        is("gets stay", x.thread(0, 2), 4);
        x.turn(0);
        is("gets go on", x.thread(0, 2), 4);
        is("lives", x.thread(0, 0), 1);
        is("no pages", x.thread(0, 1), 0);
    }

    private static void queue() {
        promise("11");
        HomeFreed x = Check.arena("st2p4u4;cz2;cz4");
        for (int i = 0; i < 5; i++) {
            x.get(0, 1);
        }
        is("first two are full", x.most(5), 3);
        is("queue", x.queue(0, 0, 0), 2);
        x.free(0, 100);
        x.free(0, 0);
        is("front", x.queue(0, 0, 0), 2);
        is("then as they came back", x.queue(0, 0, 1), 1);
        is("then", x.queue(0, 0, 2), 0);
        is("end", x.queue(0, 0, 3), NONE);
        is("i", x.queue(0, 0, -1), NONE);
        is("class", x.queue(0, 2, 0), NONE);
        is("class", x.queue(0, -1, 0), NONE);
        is("thread", x.queue(2, 0, 0), NONE);
        is("other class", x.queue(0, 1, 0), NONE);
        x.get(1, 4);
        is("other thread", x.queue(1, 1, 0), 3);
    }

    private static void held() {
        promise("13");
        HomeFreed x = Check.arena("st2p2u5;cz2");
        is("empty page", x.held(0), NONE);
        x.get(0, 1);
        is("held", x.held(0), 1);
        is("ready", x.held(1), 0);
        is("only two blocks", x.held(2), NONE);
        is("page", x.held(100), NONE);
        is("page", x.held(200), NONE);
        is("negative", x.held(-1), NONE);
        x.free(1, 0);
        is("outbox", x.held(0), 0);
    }

    private static void get() {
        promise("14");
        HomeFreed x = Check.arena("st2p3u4b2h30;cz2;cz4");
        is("thread", x.get(2, 1), NONE);
        is("thread", x.get(-1, 1), NONE);
        is("status", x.status(0), 2);
        is("n", x.get(0, 0), NONE);
        is("n", x.get(0, 5), NONE);
        is("n", x.get(0, 41), NONE);
        is("status", x.status(1), 3);
        is("empty", x.get(0, 2), 0);
        is("ready", x.get(0, 1), 1);
        is("other class", x.get(0, 3), 100);
        x.free(1, 0);
        is("third page", x.get(0, 1), 200);
        is("ready", x.get(0, 1), 201);
        is("no room", x.get(0, 1), NONE);
        is("status", x.status(3), 1);
        is("no page is full by that", x.most(6), 6);
        is("full ahead", x.most(5), 1);
        x.send(1);
        is("full pages wait for a tick", x.get(0, 1), NONE);
        is("tick", x.tick(0), 3);
        is("foreign in a later page", x.get(0, 1), 0);
        is("how", x.log(0, 2), 3);
        is("the one ahead is full", x.most(5), 4);
        x.turn(0);
        is("dead", x.get(0, 1), NONE);
        is("too large is first", x.get(0, 9), NONE);
        is("status", x.status(2), 1);
        is("status", x.status(1), 4);
        is("abandoned without blocks", x.get(1, 1), NONE);
        x.free(1, 201);
        is("in an outbox", x.get(1, 1), NONE);
        x.send(1);
        is("adopted", x.get(1, 1), 201);
        is("how", x.log(0, 2), 4);
        is("owner", x.page(2, 1), 1);
    }

    private static void getTicks() {
        promise("14, ticks");
        HomeFreed x = Check.arena("st2p4u4b9h3;cz2");
        x.get(0, 1);
        x.get(0, 1);
        x.free(1, 0);
        is("third get of 0: a new page", x.get(0, 1), 100);
        is("a tick of 0 sends nothing of 1", x.thread(1, 3), 1);
        x.get(1, 1);
        x.get(1, 1);
        is("still there", x.thread(1, 3), 1);
        x.get(1, 1);
        is("the third get of 1 sends", x.thread(1, 3), 0);
        is("foreign", x.page(0, 6), 1);
        is("full", x.page(0, 0), 2);
        x.get(0, 1);
        x.turn(0);
        x.turn(0);
        is("none owned", x.thread(0, 1), 0);
        is("fifth get, adopted", x.get(0, 1), 0);
        x.undo();
        x.free(1, 101);
        is("two", x.thread(1, 3), 1);
        is("fifth", x.get(0, 1), 0);
        is("no tick", x.thread(0, 2), 5);
        x.free(0, 200);
        is("out", x.thread(0, 3), 1);
        is("no room", x.get(0, 1), NONE);
        is("refused ones do not count", x.thread(0, 3), 1);
    }

    private static void free() {
        promise("15");
        HomeFreed x = Check.arena("st2p4u4b2h30;cz2");
        for (int i = 0; i < 6; i++) {
            x.get(0, 1);
        }
        is("thread", x.free(2, 0), NONE);
        is("block", x.free(0, 300), NONE);
        is("block", x.free(0, 2), NONE);
        is("block", x.free(0, -1), NONE);
        is("status", x.status(0), 4);
        is("local", x.free(0, 0), 0);
        is("full page is queued", x.queue(0, 0, 1), 0);
        is("not held", x.free(0, 0), NONE);
        is("status", x.status(2), 1);
        is("its page is empty", x.free(0, 1), 0);
        is("empty", x.page(0, 0), 0);
        is("queue", x.queue(0, 0, 1), NONE);
        is("outbox", x.free(1, 101), 1);
        is("home", x.free(1, 100), 2);
        is("a full page is not queued by that", x.page(1, 0), 2);
        is("as they were", x.list(1, 2, 0), 0);
        is("as they were", x.list(1, 2, 1), 1);
        x.free(0, 200);
        x.free(0, 201);
        is("the last page of its queue stays", x.page(2, 0), 1);
        is("used", x.page(2, 3), 0);
        x.get(0, 1);
        x.turn(1);
        is("dead", x.free(1, 201), NONE);
        is("status", x.status(2), 2);
        HomeFreed y = Check.arena("st2p2u4b1;c");
        y.get(0, 1);
        is("batch of one", y.free(1, 0), 2);
        is("foreign", y.list(0, 2, 0), 0);
        is("an owned page stays", y.page(0, 0), 1);
    }

    private static void freeOfAbandoned() {
        promise("15, abandoned");
        HomeFreed x = Check.arena("st3p2u4b2h30;cz2");
        x.get(0, 1);
        x.get(0, 1);
        x.turn(0);
        is("abandoned", x.page(0, 0), 3);
        is("outbox of 1", x.free(1, 0), 1);
        is("outbox of 2", x.free(2, 1), 1);
        is("used by outboxes", x.page(0, 3), 2);
        is("sent", x.send(1), 1);
        is("still used", x.page(0, 0), 3);
        is("sent", x.send(2), 1);
        is("empty by that", x.page(0, 0), 0);
        x.turn(0);
        x.get(0, 1);
        x.get(0, 1);
        x.turn(0);
        is("outbox", x.free(1, 1), 1);
        is("home, and the page is empty", x.free(1, 0), 2);
        is("empty", x.page(0, 0), 0);
        is("none", x.most(7), 0);
        x.turn(0);
        x.get(0, 1);
        x.get(0, 1);
        x.free(1, 1);
        x.turn(0);
        x.free(2, 0);
        x.send(2);
        is("adopted with own outbox", x.get(1, 1), 0);
        is("still in it", x.outbox(1, 0, 0), 1);
        is("local", x.free(1, 0), 0);
        is("still in it", x.thread(1, 3), 1);
        is("tick", x.tick(1), 1);
        is("foreign of its own page", x.list(0, 2, 0), 1);
    }

    private static void tick() {
        promise("16");
        HomeFreed x = Check.arena("st2p4u4b9h30;cz2");
        for (int i = 0; i < 6; i++) {
            x.get(0, 1);
        }
        is("thread", x.tick(2), NONE);
        is("thread", x.tick(-1), NONE);
        is("status", x.status(0), 2);
        x.free(1, 100);
        x.free(1, 0);
        x.free(1, 1);
        is("sends", x.tick(1), 0);
        is("foreign", x.page(0, 6), 2);
        is("queue", x.queue(0, 0, 1), NONE);
        is("full ones with foreign come back, unused ones go", x.tick(0), 2);
        is("unused", x.page(0, 0), 0);
        is("queue", x.queue(0, 0, 0), 2);
        is("queue", x.queue(0, 0, 1), 1);
        x.free(0, 101);
        x.free(1, 200);
        x.free(1, 201);
        is("rising: the last one stays", x.page(1, 0), 0);
        x.send(1);
        is("one is left", x.tick(0), 1);
        is("unused, but alone", x.page(2, 0), 1);
        x.turn(0);
        is("dead", x.tick(0), NONE);
        is("status", x.status(2), 1);
    }

    private static void send() {
        promise("17");
        HomeFreed x = Check.arena("st3p3u4b9h30;c;cz4");
        x.get(0, 1);
        x.get(0, 1);
        x.get(2, 4);
        x.free(1, 1);
        x.free(1, 0);
        x.free(1, 100);
        is("thread", x.send(3), NONE);
        is("status", x.status(0), 1);
        is("none", x.send(0), 0);
        is("an act all the same", x.count(4), 7);
        is("three", x.send(1), 3);
        is("again", x.send(1), 0);
        is("foreign", x.list(0, 2, 0), 0);
        is("foreign", x.list(0, 2, 1), 1);
        is("foreign", x.list(1, 2, 0), 0);
        x.get(0, 1);
        x.free(2, 2);
        x.send(2);
        is("ahead of what is there", x.list(0, 2, 0), 2);
        is("behind", x.list(0, 2, 1), 0);
        x.turn(1);
        is("dead", x.send(1), NONE);
        is("status", x.status(2), 1);
    }

    private static void turn() {
        promise("18");
        HomeFreed x = Check.arena("st2p4u4b9h30;cz2");
        for (int i = 0; i < 5; i++) {
            x.get(0, 1);
        }
        x.get(1, 1);
        x.free(0, 300);
        x.free(1, 200);
        x.send(1);
        is("thread", x.turn(2), NONE);
        is("thread", x.turn(-1), NONE);
        is("status", x.status(0), 2);
        is("ends", x.turn(0), 0);
        is("it sent", x.page(3, 6), 1);
        is("full ones are abandoned", x.most(3), 3);
        is("an unused one is empty", x.most(4), 4);
        is("held stay", x.most(7), 4);
        is("queue", x.queue(0, 0, 0), NONE);
        is("class stays", x.page(0, 2), 0);
        is("begins", x.turn(0), 1);
        is("without pages", x.thread(0, 1), 0);
        is("living", x.most(2), 3);
    }

    private static void perform() {
        promise("19");
        HomeFreed x = new HomeFreed();
        Check.tell(x, "g0:1;g1:2;f1:0;k0;m1;x1;x1;f1:1", 1);
        Check.tell(x, "g0:1;f0:1;g0:1", 1);
        Check.tell(x, "g7:1;g0:1", 1);
        Check.tell(x, "g0:1;f0:0;f0:0", 1);
        is("no arena", x.perform(0), NONE);
        is("status", x.status(0), 1);
        Check.tell(x, "st2p3u4b9h30;cz2", 0);
        is("no such", x.perform(4), NONE);
        is("no such", x.perform(-1), NONE);
        is("status", x.status(0), 3);
        is("all", x.perform(0), 8);
        is("one act", x.count(4), 1);
        is("log", x.count(3), 2);
        is("page of 0: its block was sent", x.page(0, 6), 1);
        is("page of 1: abandoned, its block is in an outbox", x.page(1, 0), 3);
        is("outbox", x.outbox(1, 1, 0), 0);
        is("held", x.most(7), 0);
        is("a number that was not got", x.perform(1), 1);
        is("it stays held", x.most(7), 1);
        is("no such thread: nothing done, an act", x.perform(2), 0);
        is("acts", x.count(4), 3);
        is("freed already", x.perform(3), 2);
        is("no status by that", x.status(0) + x.status(1) + x.status(2) + x.status(3), 3);
        Check.tell(x, "st2p1u4b9h30;cz4", 0);
        is("no room", x.perform(0), 1);
        Check.tell(x, "st1p1u4b9h30;cz4", 0);
        is("thread is not there", x.perform(0), 1);
    }

    private static void scopes() {
        promise("19, scopes");
        HomeFreed x = Check.arena("st2p3u8b9h30;cz1;cz2");
        Check.tell(x, "g0:1;(;g0:1;g0:1;(;g0:1;);g0:1;)", 1);
        Check.tell(x, "(;g0:1;(;g0:1;g9:1;);)", 1);
        Check.tell(x, "(;(;g0:1;x0;x1;);x0;(;g0:2;);g0:2;f0:0;g0:2;)", 1);
        Check.tell(x, "(;g0:1;g1:2;x0;)", 1);
        is("all", x.perform(0), 9);
        is("what was got outside stays", x.most(7), 1);
        is("the innermost first, then the latest first", x.list(0, 1, 0), 1);
        is("then", x.list(0, 1, 1), 2);
        is("then", x.list(0, 1, 2), 4);
        is("then", x.list(0, 1, 3), 3);
        Check.tell(x, "st2p3u8b9h30;cz1;cz2", 0);
        is("stopped", x.perform(1), 4);
        is("all scopes ended", x.most(7), 0);
        is("the innermost first", x.list(0, 1, 0), 0);
        is("then", x.list(0, 1, 1), 1);
        Check.tell(x, "st2p3u8b9h30;cz1;cz2", 0);
        is("all", x.perform(2), 14);
        is("none lived: it stayed, till it was freed by hand", x.held(0), 0);
        is("of an abandoned page: outbox", x.where(0, 0), 4);
        is("the others went", x.most(7), 0);
        Check.tell(x, "st2p3u8b9h30;cz1;cz2", 0);
        is("all", x.perform(3), 5);
        is("by the lowest that lives", x.where(0, 2), 1);
        is("by the one that got it", x.where(100, 0), 2);
    }

    private static void years() {
        promise("20");
        HomeFreed x = new HomeFreed();
        is("no arena", x.years(1, 1L), NONE);
        Check.tell(x, "st2p3u4b2h30;cz2", 0);
        is("none", x.years(0, 1L), NONE);
        is("too many", x.years(41, 1L), NONE);
        is("no status", x.status(0) + x.status(1) + x.status(2) + x.status(3), 0);
        is("no act", x.count(4), 0);
        // the draws of seed 0 by 2, 3, 4: 1, 0, 1; then by 2, 3, 1: 0, 2, 0
        is("1 gets 2 units", x.years(1, 0L), 1);
        is("by 1", x.log(0, 1), 1);
        is("each time is an act", x.count(4), 1);
        x.undo();
        is("1 gets, 0 frees", x.years(2, 0L), 0);
        is("outbox of 0", x.where(0, 2), 0);
        is("each time is an act", x.count(4), 2);
        // of seed 3: 1, 1, 3
        is("4 units are too large", x.years(1, 3L), 0);
        is("an act all the same", x.count(4), 3);
        Check.tell(x, "st2p3u4b2h30;cz4", 0);
        // of seed 5, as nothing is held at first, by 2, 3, 2, 3, 4: 0, 2, 0, 1, 3
        is("no draw for what is not held", x.years(2, 5L), 1);
        is("log", x.log(0, 1), 0);
        x.years(40, 7L);
        is("each time is an act", x.count(4), 40);
        is("answer", x.years(5, -9L), x.most(7));
        is("no status", x.status(0) + x.status(1) + x.status(2) + x.status(3), 0);
        is("none lost", x.most(11), 0);
    }

    private static void status() {
        promise("21");
        HomeFreed x = Check.arena("st1p1u4;cz4");
        is("what", x.status(4), NONE);
        is("what", x.status(-1), NONE);
        x.get(1, 99);
        x.get(0, 99);
        x.get(0, 1);
        x.get(0, 1);
        x.turn(0);
        x.get(0, 1);
        x.undo();
        x.undo();
        for (int what = 0; what < 4; what++) {
            is("not undone " + what, x.status(what), 1);
        }
    }

    private static void undo() {
        promise("22");
        HomeFreed x = Check.arena("st2p3u4b2h30;cz2");
        is("none", x.undo(), NONE);
        x.get(0, 1);
        x.get(0, 1);
        x.free(1, 0);
        x.free(1, 1);
        x.tick(0);
        x.turn(0);
        is("ended", x.thread(0, 0), 0);
        is("turn", x.undo(), 5);
        is("lives", x.thread(0, 0), 1);
        is("page", x.page(0, 1), 0);
        x.undo();
        is("batch", x.undo(), 3);
        is("in the outbox again", x.outbox(1, 0, 0), 0);
        is("held again", x.held(1), 1);
        is("free", x.undo(), 2);
        is("get", x.undo(), 1);
        is("log, too", x.count(3), 1);
        is("get", x.undo(), 0);
        is("empty", x.page(0, 0), 0);
        is("gets", x.thread(0, 2), 0);
        is("none", x.undo(), NONE);
        for (int i = 0; i < 50; i++) {
            x.turn(1);
            is("acts", x.count(4), Math.min(40, i + 1));
        }
        for (int i = 39; i >= 0; i--) {
            is("the latest 40", x.undo(), i);
        }
        is("no more", x.undo(), NONE);
        is("ten turns stay", x.thread(1, 0), 1);
        is("refused ones are no acts", x.get(0, 9), NONE);
        is("none", x.count(4), 0);
    }

    private static void log() {
        promise("23");
        HomeFreed x = Check.arena("st2p16u40b2h30;c");
        is("none", x.log(0, 0), NONE);
        for (int i = 0; i < 61; i++) {
            x.get(i % 2, 1);
        }
        is("the latest 60", x.count(3), 60);
        is("latest", x.log(0, 0), 30);
        is("latest", x.log(0, 1), 0);
        is("latest", x.log(0, 2), 0);
        is("ahead", x.log(1, 0), 129);
        is("ahead", x.log(1, 1), 1);
        is("oldest", x.log(59, 0), 100);
        is("oldest", x.log(59, 2), 5);
        is("no more", x.log(60, 0), NONE);
        is("negative", x.log(-1, 0), NONE);
        is("what", x.log(0, 3), NONE);
        is("what", x.log(0, -1), NONE);
        x.undo();
        is("the one that fell out is there again", x.log(59, 0), 0);
        is("still 60", x.count(3), 60);
    }

    private static void step() {
        promise("24");
        HomeFreed x = new HomeFreed();
        Check.tell(x, "g1:12;f9:05;x0;k3;m4;(;)", 1);
        int[][] want = {{0, 1, 12}, {1, 9, 5}, {2, 0, NONE}, {3, 3, NONE}, {4, 4, NONE}, {5, NONE, NONE}, {6, NONE, NONE}};
        for (int i = 0; i < 7; i++) {
            for (int what = 0; what < 3; what++) {
                is("step " + i + " " + what, x.step(0, i, what), want[i][what]);
            }
        }
        is("i", x.step(0, 7, 0), HIDDEN);
        is("i", x.step(0, -1, 0), HIDDEN);
        is("what", x.step(0, 0, 3), HIDDEN);
        is("what", x.step(0, 0, -1), HIDDEN);
        is("script", x.step(1, 0, 0), HIDDEN);
        is("script", x.step(-1, 0, 0), HIDDEN);
    }

    private static void waste() {
        promise("25");
        HomeFreed x = new HomeFreed();
        is("no arena", x.waste(1), NONE);
        is("no arena", x.waste(0), NONE);
        Check.tell(x, "su40;cz4;cz10;cz40", 0);
        is("1", x.waste(1), 3);
        is("4", x.waste(4), 0);
        is("5", x.waste(5), 5);
        is("11", x.waste(11), 29);
        is("40", x.waste(40), 0);
        is("41", x.waste(41), NONE);
        is("negative", x.waste(-1), NONE);
        is("worst: 3 of 4 is more than 29 of 40", x.waste(0), 1);
        Check.tell(x, "su40;cz4;cz10;cz39", 0);
        is("40 is too large", x.waste(40), NONE);
        Check.tell(x, "su40;cz1;cz3;cz12", 0);
        is("worst: 8 of 12, not 1 of 3", x.waste(0), 4);
        Check.tell(x, "su40;cz1;cz4;cz10", 0);
        is("worst: 2 of 4 and 5 of 10: the least", x.waste(0), 2);
        Check.tell(x, "c", 0);
        is("worst without waste", x.waste(0), 1);
    }

    private static void classes() {
        promise("26");
        HomeFreed x = new HomeFreed();
        is("no arena", x.classes(0, 0), NONE);
        Check.tell(x, "su40;c", 0);
        is("all", x.classes(0, NONE), 40);
        is("last", x.classes(0, 39), 40);
        is("behind", x.classes(0, 40), NONE);
        int[] quarter = {1, 2, 4, 6, 9, 13, 18, 25, 34, 40};
        is("how many", x.classes(25, NONE), quarter.length);
        for (int i = 0; i < quarter.length; i++) {
            is("quarter " + i, x.classes(25, i), quarter[i]);
        }
        is("behind", x.classes(25, quarter.length), NONE);
        is("two", x.classes(90, NONE), 3);
        is("twenty", x.classes(90, 1), 20);
        is("the units at most", x.classes(90, 2), 40);
        is("q", x.classes(91, NONE), NONE);
        is("q", x.classes(-1, NONE), NONE);
        is("i", x.classes(0, -2), NONE);
    }

    private static void would() {
        promise("27");
        HomeFreed x = Check.arena("st2p3u4b1h30;cz2;cz4");
        is("empty", x.would(0, 1), 5);
        is("thread", x.would(2, 1), NONE);
        is("thread", x.would(-1, 1), NONE);
        is("n", x.would(0, 0), NONE);
        is("n", x.would(0, 5), NONE);
        is("n", x.would(0, 41), NONE);
        x.get(0, 1);
        is("ready", x.would(0, 1), 0);
        x.get(0, 1);
        x.free(1, 0);
        is("foreign", x.would(0, 1), 2);
        x.free(0, 1);
        is("local is first", x.would(0, 1), 1);
        x.get(0, 1);
        x.get(0, 1);
        is("empty", x.would(0, 1), 5);
        x.get(0, 1);
        x.get(0, 1);
        x.free(0, 0);
        is("later", x.would(0, 1), 3);
        is("nothing is changed", x.queue(0, 0, 0), 1);
        x.get(1, 4);
        is("no room", x.would(1, 1), NONE);
        is("no room", x.would(1, 4), NONE);
        x.turn(0);
        is("dead", x.would(0, 1), NONE);
        is("adopted", x.would(1, 1), 4);
        is("status", x.status(0) + x.status(1) + x.status(2) + x.status(3), 0);
    }

    private static void where() {
        promise("28");
        HomeFreed x = Check.arena("st3p2u7b4h30;c");
        for (int i = 0; i < 6; i++) {
            x.get(0, 1);
        }
        x.free(0, 4);
        x.free(0, 3);
        x.free(2, 0);
        x.free(2, 1);
        x.free(1, 5);
        x.send(1);
        whereIs(x, 2, 0, NONE, NONE, NONE);
        whereIs(x, 6, 1, 0, NONE, NONE);
        whereIs(x, 4, 2, 1, NONE, NONE);
        whereIs(x, 3, 2, 0, NONE, NONE);
        whereIs(x, 5, 3, 0, NONE, NONE);
        whereIs(x, 0, 4, 1, 2, 2);
        whereIs(x, 1, 4, 0, 2, 2);
        whereIs(x, 7, NONE, NONE, NONE, NONE);
        whereIs(x, 100, NONE, NONE, NONE, NONE);
        whereIs(x, -1, NONE, NONE, NONE, NONE);
        is("what", x.where(0, 4), NONE);
        is("what", x.where(0, -1), NONE);
    }

    private static void whereIs(HomeFreed x, int block, int... want) {
        for (int what = 0; what < 4; what++) {
            is("where " + block + " " + what, x.where(block, what), want[what]);
        }
    }

    private static void series() {
        promise("29");
        HomeFreed x = Check.arena("st2p16u40b2h30;c");
        is("room", x.series(0, 1, NONE), 640);
        is("last that is told", x.series(0, 1, 99), 219);
        is("i", x.series(0, 1, 100), NONE);
        is("i", x.series(0, 1, -2), NONE);
        is("n", x.series(0, 0, NONE), NONE);
        is("n", x.series(0, 2, NONE), NONE);
        is("thread", x.series(2, 1, NONE), NONE);
        is("nothing is changed", x.most(4), 65535);
        is("log", x.count(3), 0);
        Check.tell(x, "st2p2u4b3h3;cz2", 0);
        x.get(0, 1);
        x.get(1, 1);
        x.free(0, 100);
        is("second get more brings a tick, by which the block is sent", x.series(0, 1, NONE), 1);
        is("the other", x.series(0, 1, 0), 1);
        is("no more", x.series(0, 1, 1), NONE);
        x.get(1, 1);
        is("room of 1", x.series(1, 1, NONE), 0);
        is("none", x.series(1, 1, 0), NONE);
        x.send(0);
        is("room of 1", x.series(1, 1, 0), 100);
        x.turn(1);
        is("dead", x.series(1, 1, NONE), NONE);
        HomeFreed y = Check.arena("st2p2u8b9h3;cz4");
        y.get(0, 1);
        y.get(1, 1);
        y.get(1, 1);
        y.free(0, 100);
        y.turn(1);
        is("a tick in the midst", y.series(0, 1, NONE), 1);
        y.undo();
        y.undo();
        y.free(0, 100);
        y.free(0, 101);
        y.turn(1);
        is("no tick yet", y.most(3), 2);
        is("one, and its tick comes too late", y.series(0, 1, NONE), 1);
        HomeFreed z = Check.arena("st2p2u8b9h2;cz4");
        z.get(1, 1);
        z.get(1, 1);
        z.get(0, 1);
        z.free(0, 0);
        z.free(0, 1);
        z.turn(1);
        is("the tick behind the second get empties the other page", z.series(0, 1, NONE), 3);
        is("then", z.series(0, 1, 1), 0);
    }

    private static void cheapest() {
        promise("30");
        HomeFreed x = new HomeFreed();
        is("no arena", x.cheapest(0), NONE);
        Check.tell(x, "st3p4u4b9h30;cz1;cz2;cz4", 0);
        is("none", x.cheapest(0), NONE);
        x.get(0, 1);
        x.get(0, 1);
        x.get(0, 1);
        x.get(0, 2);
        x.get(0, 2);
        x.get(1, 1);
        x.get(1, 1);
        x.free(2, 100);
        is("fewest, the lowest", x.cheapest(0), 1);
        is("held of them", x.cheapest(1), 1);
        is("what", x.cheapest(2), NONE);
        is("what", x.cheapest(-1), NONE);
        x.free(0, 101);
        x.send(2);
        is("unused ones do not count", x.cheapest(0), 2);
        is("held of them", x.cheapest(1), 2);
    }

    private static void run() {
        promise("31");
        HomeFreed x = new HomeFreed();
        Check.tell(x, "g0:1;g1:1;(;g0:3;g0:3;)", 1);
        is("no arena", x.run(0, 0), NONE);
        Check.tell(x, "st2p3u4b9h30;cz2;cz4", 0);
        x.get(1, 2);
        is("steps", x.run(0, 0), 4);
        is("pages", x.run(0, 1), 3);
        is("blocks", x.run(0, 2), 3);
        is("what", x.run(0, 3), NONE);
        is("what", x.run(0, -1), NONE);
        is("script", x.run(1, 0), NONE);
        is("script", x.run(-1, 0), NONE);
        is("apart", x.most(7), 1);
        is("apart", x.count(4), 1);
        is("apart", x.count(3), 1);
        is("status", x.status(0), 0);
        is("the same as done", x.perform(0), 4);
        is("the same as done", x.most(7), 3);
    }

    private static void ways() {
        promise("32");
        HomeFreed x = new HomeFreed();
        Check.tell(x, "g0:1;f0:0;g0:1", 1);
        Check.tell(x, "g1:1;f1:0", 1);
        Check.tell(x, "x0;x0;x0;x0;x0;x0;x0", 1);
        Check.tell(x, "(;)", 1);
        is("no arena", x.ways(0, 1, 0), NONE);
        Check.tell(x, "st2p1u4b9h30;cz4", 0);
        is("how many", x.ways(0, 1, 0), 10);
        // one page of one block: 0 keeps the page, so nothing of 1 can be till 0 is through, and then nothing;
        // 1 ahead of 0 likewise
        is("all can be", x.ways(0, 1, 1), 0);
        is("most", x.ways(0, 1, 2), 1);
        is("fewest", x.ways(0, 1, 3), 1);
        Check.tell(x, "st2p2u4b9h30;cz4", 0);
        is("all can be", x.ways(0, 1, 1), 10);
        is("most", x.ways(0, 1, 2), 2);
        is("fewest", x.ways(0, 1, 3), 2);
        is("other way round", x.ways(1, 0, 0), 10);
        is("alike", x.ways(0, 0, 0), NONE);
        is("more than six", x.ways(0, 2, 0), NONE);
        is("more than six", x.ways(2, 0, 0), NONE);
        is("a scope", x.ways(0, 3, 0), NONE);
        is("a scope", x.ways(3, 0, 0), NONE);
        is("no such", x.ways(0, 4, 0), NONE);
        is("no such", x.ways(-1, 0, 0), NONE);
        is("what", x.ways(0, 1, 4), NONE);
        is("what", x.ways(0, 1, -1), NONE);
        is("apart", x.most(4), 3);
        HomeFreed y = Check.arena("st2p2u4b9h30;cz4");
        Check.tell(y, "x0;x0;x0;x0;x0;x0", 1);
        Check.tell(y, "k1;k1;k1;k1;k1;k1", 1);
        Check.tell(y, "g0:4", 1);
        Check.tell(y, "x0;x0", 1);
        is("12 over 6", y.ways(0, 1, 0), 924);
        is("all", y.ways(0, 1, 1), 924);
        is("most", y.ways(0, 1, 2), 0);
        is("fewest", y.ways(0, 1, 3), 0);
        is("three", y.ways(2, 3, 0), 3);
        is("not while it does not live", y.ways(2, 3, 1), 2);
        is("most", y.ways(2, 3, 2), 1);
        is("fewest", y.ways(2, 3, 3), 0);
        is("the other way round", y.ways(3, 2, 1), 2);
        HomeFreed z = Check.arena("st2p2u4b9h30;cz4");
        Check.tell(z, "k0;k0;k0;k0;k0;x0", 1);
        Check.tell(z, "g0:1", 1);
        is("six steps and one", z.ways(0, 1, 0), 7);
        is("not behind the end", z.ways(0, 1, 1), 6);
        is("the other way round", z.ways(1, 0, 1), 6);
        is("fewest", z.ways(0, 1, 3), 0);
    }

    private static void shares() {
        promise("33");
        HomeFreed x = new HomeFreed();
        is("no arena", x.shares(0, 1), NONE);
        Check.tell(x, "st3p4u8b9h30;c", 0);
        is("none", x.shares(0, 100), 0);
        x.get(0, 1);
        x.get(0, 1);
        x.get(1, 1);
        is("two thirds, cut", x.shares(0, 100), 66);
        is("a third, cut", x.shares(1, 100), 33);
        is("nothing", x.shares(2, 999), 0);
        x.free(2, 0);
        is("outboxes count as used", x.shares(0, 999), 666);
        x.turn(1);
        is("all pages count", x.shares(0, 3), 2);
        is("c", x.shares(0, 1000), NONE);
        is("c", x.shares(0, -1), NONE);
        is("thread", x.shares(3, 1), NONE);
        is("thread", x.shares(-1, 1), NONE);
        is("c 0", x.shares(0, 0), 0);
    }

    private static void most() {
        promise("34");
        HomeFreed x = new HomeFreed();
        is("no arena", x.most(0), HIDDEN);
        Check.tell(x, "st3p5u7b9h30;cz2;cz3", 0);
        int[] new_ = {0, 0, 7, 0, 31, 0, 0, 0, 0, 0, 0, 0};
        mostIs(x, new_);
        x.get(0, 3);
        x.get(0, 3);
        x.get(0, 3);
        x.get(1, 2);
        x.get(1, 2);
        x.get(2, 2);
        x.turn(2);
        x.free(1, 100);
        x.free(0, 200);
        x.send(0);
        // pages: 0 full (2 of size 3), 1 queued (1 in an outbox), 2 queued (1 held, 1 foreign, 1 ready), 3 abandoned (1)
        int[] want = {0, 0, 3, 8, 16, 1, 6, 4, 1, 1 + 4 + 5 + 5, 1, 0};
        mostIs(x, want);
        is("what", x.most(12), HIDDEN);
        is("what", x.most(-1), HIDDEN);
        x.turn(2);
        x.get(2, 2);
        x.get(2, 2);
        is("of several the lowest", x.most(0), 3);
        x.get(1, 3);
        is("of several the lowest", x.most(1), 0);
    }

    private static void mostIs(HomeFreed x, int[] want) {
        for (int what = 0; what < 12; what++) {
            is("most " + what, x.most(what), want[what]);
        }
    }

    private static void images() {
        promise("35");
        HomeFreed x = new HomeFreed();
        is("no arena", x.image(), NONE);
        Check.tell(x, "st2p3u4b2h30;cz2", 0);
        x.get(0, 1);
        x.get(0, 1);
        x.free(1, 0);
        is("held", x.image(), 1);
        is("no act", x.count(4), 3);
        promise("36");
        x.turn(0);
        x.free(1, 1);
        x.get(0, 1);
        is("held", x.back(), 1);
        is("outbox", x.outbox(1, 0, 0), 0);
        is("lives", x.most(2), 3);
        is("gets", x.thread(0, 2), 2);
        is("log", x.count(3), 2);
        is("queue", x.queue(0, 0, 0), 0);
        is("nothing can be undone", x.undo(), NONE);
        is("status stays", x.status(2), 1);
        x.get(0, 1);
        is("instead of the one ahead", x.image(), 2);
        x.free(0, 1);
        is("again", x.back(), 2);
        is("and again", x.back(), 2);
        x.get(1, 1);
        x.undo();
        is("the image stays", x.back(), 2);
        Check.tell(x, "st2p3u4b2h30;cz2", 0);
        is("of another arena", x.back(), NONE);
    }

    private static void count() {
        promise("37");
        HomeFreed x = Check.arena("c;cz2;cz3");
        Check.tell(x, "x0", 1);
        Check.tell(x, "x1", 1);
        Check.feed(x, "cz2");
        x.get(0, 1);
        x.get(0, 2);
        x.turn(1);
        int[] want = {3, 2, 3, 2, 3};
        for (int what = 0; what < 5; what++) {
            is("count " + what, x.count(what), want[what]);
        }
        is("what", x.count(5), HIDDEN);
        is("what", x.count(-1), HIDDEN);
    }
}
