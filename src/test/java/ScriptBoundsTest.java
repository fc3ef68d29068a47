import java.util.Arrays;

/** SCRIPTS as they run: STEPS that can't be, SCOPES, DO, RUN, WAYS (promises 19, 24, 31, 32 and 5 for SCRIPTS). */
public final class ScriptBoundsTest {
    private static final int NONE = HomeFreed.NONE;
    private static final int HIDDEN = HomeFreed.HIDDEN;
    private static final Check CHECK = new Check();

    public static void main(String[] args) {
        fourScripts();
        stepsAsTold();
        getsThatCannotBe();
        freesThatCannotBe();
        othersThatCannotBe();
        longest();
        scopesThatEnd();
        scopesWithinOthers();
        scopesThatAreStopped();
        freedByWhom();
        heldSince();
        refusedPerforms();
        runs();
        howManyWays();
        waysThatCanBe();
        pagesOfWays();
        waysOfBlocks();
        refusedWays();
        CHECK.close("ScriptBoundsTest");
    }

    /** An object with an ARENA and SCRIPTS 0, 1 .. */
    private static HomeFreed with(String arena, String... scripts) {
        HomeFreed x = Check.arena(arena);
        for (String script : scripts) {
            Check.tell(x, script, 1);
        }
        return x;
    }

    /** How many STEPS are done of one, on a new object; RUN has to say the same ahead of it. */
    private static void done(String arena, String script, int want) {
        HomeFreed x = with(arena, script);
        CHECK.is("run of " + script, x.run(0, 0), want);
        CHECK.is("perform of " + script, x.perform(0), want);
    }

    private static void fourScripts() {
        CHECK.said("a SCRIPT: its number. NONE: a FAULT, no such sort, there are four SCRIPTS.");
        HomeFreed x = new HomeFreed();
        for (int i = 0; i < 4; i++) {
            CHECK.is("number", Check.tell(x, "x" + i, 1), i);
            CHECK.is("how many", x.count(1), i + 1);
        }
        CHECK.is("no fifth", Check.tell(x, "x9", 1), NONE);
        CHECK.is("four", x.count(1), 4);
        CHECK.is("the tape stays", x.count(2), 2);
        for (int i = 0; i < 4; i++) {
            CHECK.is("as it was", x.step(i, 0, 1), i);
        }
        CHECK.is("an arena may come all the same", Check.tell(x, "c", 0), 1);
        CHECK.is("they stay", x.count(1), 4);
    }

    private static void stepsAsTold() {
        CHECK.said("A STEP of a SCRIPT: 0 what (0 g, 1 f, 2 x, 3 k, 4 m, 5 (, 6 ) ), 1 its THREAD (NONE), "
                + "2 its number (NONE). HIDDEN: no such ones.");
        HomeFreed x = new HomeFreed();
        CHECK.is("no script", x.step(0, 0, 0), HIDDEN);
        Check.tell(x, "g0:40;g9:01;f9:23;f0:00;x9;k0;m5;(;)" + ";x1".repeat(15), 1);
        int[][] want = {{0, 0, 40}, {0, 9, 1}, {1, 9, 23}, {1, 0, 0}, {2, 9, NONE}, {3, 0, NONE}, {4, 5, NONE},
            {5, NONE, NONE}, {6, NONE, NONE}};
        for (int i = 0; i < 24; i++) {
            int[] due = i < want.length ? want[i] : new int[] {2, 1, NONE};
            CHECK.are("step " + i, new int[] {x.step(0, i, 0), x.step(0, i, 1), x.step(0, i, 2)}, due);
        }
        for (int odd : new int[] {Integer.MIN_VALUE, -1, 24, Integer.MAX_VALUE}) {
            CHECK.is("i " + odd, x.step(0, odd, 0), HIDDEN);
            CHECK.is("what " + odd, x.step(0, 0, odd), HIDDEN);
            CHECK.is("script " + odd, x.step(odd, 0, 0), HIDDEN);
        }
        CHECK.is("what", x.step(0, 0, 3), HIDDEN);
        CHECK.is("script", x.step(1, 0, 0), HIDDEN);
        Check.tell(x, "k3", 1);
        CHECK.is("only what is in it", x.step(1, 1, 0), HIDDEN);
        CHECK.is("not of the one that was read ahead of it", x.step(1, 0, 2), NONE);
    }

    private static void getsThatCannotBe() {
        CHECK.said("GET: as above, by a THREAD that lives");
        done("st2p1u4;cz2", "g1:2;g1:1;x0", 3);
        done("st2p1u4;cz2", "g2:1", 0);
        done("st2p1u4;cz2", "g0:3", 0);
        done("st2p1u4;cz2", "x0;g0:1", 1);
        done("st2p1u4;cz2", "x0;x0;g0:1", 3);
        done("st2p1u4;cz2", "g0:1;g0:1;g0:1", 2);
        done("st2p1u4;cz2", "g0:1;g1:1", 1);
        done("st4p1u4;cz2", "g3:1;g4:1", 1);
        CHECK.said("A SCRIPT runs STEP by STEP up to one that can't be");
        HomeFreed x = with("st2p1u4;cz2", "g0:1;g0:3;g0:1;x1");
        CHECK.is("done", x.perform(0), 1);
        CHECK.is("nothing behind it", x.most(7), 1);
        CHECK.is("nothing behind it", x.most(2), 3);
        CHECK.is("no scope: it stays held", x.held(0), 1);
    }

    private static void freesThatCannotBe() {
        CHECK.said("FREE: by one that lives, of a BLOCK that was got in it and has been HELD since");
        done("st2p2u4;cz2", "g0:1;f1:0", 2);
        done("st2p2u4;cz2", "f0:0", 0);
        done("st2p2u4;cz2", "g0:1;f0:1", 1);
        done("st2p2u4;cz2", "g0:1;g0:1;f0:1;f0:0", 4);
        done("st2p2u4;cz2", "g0:1;f0:0;f0:0", 2);
        done("st2p2u4;cz2", "g0:1;f0:0;g0:1;f0:0", 3);
        done("st2p2u4;cz2", "g0:1;f2:0", 1);
        done("st2p2u4;cz2", "g0:1;x1;f1:0", 2);
        done("st2p2u4;cz2", "g0:1;x1;x1;f1:0", 4);
        done("st2p2u4;cz2", "(;g0:1;);f0:0", 3);
        HomeFreed x = with("st2p2u4;cz4", "g0:1;f0:0;g0:1;f0:1", "f0:0");
        CHECK.is("got once more under another number", x.perform(0), 4);
        x.get(0, 1);
        CHECK.is("what was got by hand is not in it", x.perform(1), 0);
        CHECK.is("nor what was got in it when it ran ahead", with("st2p2u4;cz4", "f0:0;g0:1").perform(0), 0);
    }

    private static void othersThatCannotBe() {
        CHECK.said("TICK, SEND: by one that lives; an end, a begin: of a THREAD that is.");
        done("st2;c", "k0;k1", 2);
        done("st2;c", "k2", 0);
        done("st2;c", "x1;k1", 1);
        done("st2;c", "x1;k0;x1;k1", 4);
        done("st2;c", "m0;m1", 2);
        done("st2;c", "m2", 0);
        done("st2;c", "x1;m1", 1);
        done("st2;c", "x1;m0;x1;m1", 4);
        done("st2;c", "x0;x0;x0;x1;x1;x1", 6);
        done("st2;c", "x2", 0);
        done("st4;c", "x3;x4", 1);
        done("st1;c", "x9", 0);
        CHECK.said("x and a digit: that THREAD ends, or begins again");
        HomeFreed x = with("st2p2u4b9h30;cz2", "x1", "k0", "m0");
        x.get(1, 1);
        x.free(0, 0);
        x.perform(2);
        CHECK.is("m sends", x.page(0, 6), 1);
        x.undo();
        x.perform(1);
        CHECK.is("k sends, too", x.page(0, 6), 1);
        x.perform(0);
        CHECK.is("it ended, its page is empty", x.page(0, 0), 0);
        x.perform(0);
        CHECK.is("it lives again", x.thread(1, 0), 1);
        HomeFreed y = with("st2p2u4b1h30;cz4", "k0", "m0");
        Check.gets(y, 0, 4, 2);
        y.free(1, 0);
        y.perform(1);
        CHECK.is("m does not tick", y.most(5), 1);
        y.perform(0);
        CHECK.is("k does", y.most(4), 1);
    }

    private static void longest() {
        CHECK.said("STEPS done: all ahead of the one that can't be ( ( and ) count, too).");
        done("st1p1u40h30;c", "g0:1" + ";g0:1".repeat(23), 24);
        done("st1p1u23h30;c", "g0:1" + ";g0:1".repeat(23), 23);
        done("st1p1u40h30;c", "g0:1" + ";g0:1".repeat(22) + ";f0:22", 24);
        done("st1p1u40h30;c", "g0:1" + ";g0:1".repeat(22) + ";f0:23", 23);
        done("st1p1u4h30;c", "(;(;(;(;(;(;);););););)", 12);
        done("st1p1u4h30;c", "(;);(;);k9", 4);
        done("st1p1u4h30;c", "(;(;k9;);)", 2);
        done("st1p1u4h30;c", "k9;(;)", 0);
        HomeFreed x = with("st1p1u40h5;c", "g0:1" + ";g0:1".repeat(23));
        x.perform(0);
        CHECK.is("24 are held", x.most(7), 24);
        CHECK.is("all are in the log", x.count(3), 24);
        CHECK.is("it is one act", x.count(4), 1);
        CHECK.is("all are undone", x.undo(), 0);
        CHECK.is("all are undone", x.most(4), 1);
        CHECK.is("gets, too", x.thread(0, 2), 0);
    }

    private static void scopesThatEnd() {
        CHECK.said("all BLOCKS that were got in it (not in SCOPES within it that ended) and have been HELD since are FREED, "
                + "the latest first, each by the THREAD that got it");
        HomeFreed x = with("st2p2u8b9h30;c", "g0:1;(;g0:1;g0:1;g0:1;f0:2;g1:1;);g0:1");
        x.perform(0);
        CHECK.is("those ahead of it and behind it stay", x.most(7), 2);
        CHECK.are("2 was freed by hand, then 3 and 1", Shown.list(x, 0, 1), 1, 3, 2);
        CHECK.are("by the one that got it", Shown.list(x, 1, 1), 0);
        CHECK.is("held", x.held(0), 1);
        CHECK.is("held", x.held(4), 1);
        HomeFreed y = with("st2p2u8b9h30;c", "g0:1;(;f0:0;g1:1;f0:1;)", "(;);(;);(;)");
        y.perform(0);
        CHECK.is("what was freed in it is not freed again", y.most(7), 0);
        CHECK.are("local", Shown.list(y, 0, 1), 0);
        CHECK.are("in an outbox", Shown.outbox(y, 0, 1), 0);
        String before = Shown.heap(y);
        CHECK.is("nothing in them", y.perform(1), 6);
        CHECK.alike("nothing", Shown.heap(y), before);
        HomeFreed z = with("st2p3u4b9h30;cz4", "(;g0:1;g0:1;g0:1;)");
        CHECK.is("all", z.perform(0), 5);
        CHECK.is("pages go by these frees, but the last", z.most(4), 3);
        CHECK.is("the one that was served last is in front", z.queue(0, 0, 0), 2);
    }

    private static void scopesWithinOthers() {
        CHECK.said("(not in SCOPES within it that ended)");
        HomeFreed x = with("st1p1u16h30;c", "(;g0:1;(;g0:1;(;g0:1;);g0:1;);g0:1;)");
        x.perform(0);
        CHECK.are("2; then 3, 1; then 4, 0: the front is the latest", Shown.list(x, 0, 1), 0, 4, 1, 3, 2);
        HomeFreed deep = with("st1p1u16h30;c", "(;g0:1;(;g0:1;(;g0:1;(;g0:1;(;g0:1;(;g0:1;);););););)");
        CHECK.is("all", deep.perform(0), 18);
        CHECK.are("the innermost first", Shown.list(deep, 0, 1), 0, 1, 2, 3, 4, 5);
        // nobody lives at the end of the inner one, so its block stays, and is of no scope then
        HomeFreed y = with("st2p2u4b9h30;c", "(;(;g0:1;x0;x1;);x0;)", "(;(;g0:1;x0;x1;);x1;(;(;););)");
        CHECK.is("all", y.perform(0), 8);
        CHECK.is("it stays", y.held(0), 1);
        y.undo();
        CHECK.is("all", y.perform(1), 12);
        CHECK.is("another scope of the same depth does not free it", y.held(0), 1);
    }

    private static void scopesThatAreStopped() {
        CHECK.said("(also if a STEP in it can't be: then all SCOPES that are open end, the innermost first)");
        HomeFreed x = with("st1p1u16h30;c", "g0:1;(;g0:1;(;g0:1;);(;g0:1;g0:1;f0:9;);g0:1;)");
        CHECK.is("stopped at f", x.perform(0), 9);
        CHECK.is("what is in no scope stays", x.held(0), 1);
        CHECK.is("the others do not", x.most(7), 1);
        CHECK.are("2; then 4, 3; then 1", Shown.list(x, 0, 1), 1, 3, 4, 2);
        for (String stop : new String[] {"g0:17", "g1:1", "f0:3", "f1:0", "x1", "k1", "m1"}) {
            HomeFreed y = with("st1p1u16h30;c", "(;g0:1;(;g0:1;" + stop + ";);)");
            CHECK.is("stopped at " + stop, y.perform(0), 4);
            CHECK.are("freed by " + stop, Shown.list(y, 0, 1), 0, 1);
        }
        // no room stops it; the scope makes room again
        HomeFreed z = with("st1p1u4h30;cz2", "(;g0:1;g0:1;g0:1;)");
        CHECK.is("stopped", z.perform(0), 3);
        CHECK.is("none is held", z.most(7), 0);
        CHECK.is("again", z.perform(0), 3);
    }

    private static void freedByWhom() {
        CHECK.said("each by the THREAD that got it, if it lives, else by the lowest one that does (none does: it stays)");
        HomeFreed x = with("st4p4u4b9h30;cz2", "(;g2:1;g3:1;x2;x0;)", "(;g2:1;x2;x2;)", "(;g0:1;g1:1;x0;x1;x2;x3;)");
        x.perform(0);
        CHECK.is("3 lives: local", x.where(100, 0), 2);
        CHECK.is("the lowest that lives is 1", x.where(0, 2), 1);
        x.undo();
        x.perform(1);
        CHECK.is("it lives again, but owns nothing: its own outbox", x.where(0, 2), 2);
        x.undo();
        CHECK.is("all of it", x.perform(2), 8);
        CHECK.is("none lives", x.most(2), 0);
        CHECK.is("both stay", x.most(7), 2);
        CHECK.is("both pages are abandoned", x.most(3), 3);
        HomeFreed y = with("st2p2u4b1h30;cz2", "(;g1:1;g1:1;x1;)");
        y.perform(0);
        CHECK.is("both went home by 0, so the page is empty", y.most(4), 3);
        HomeFreed z = with("st2p2u4b2h30;cz2", "(;g1:1;g1:1;x1;)", "(;g0:1;g0:1;x0;f1:0;x1;x0;)");
        z.perform(0);
        CHECK.is("by one batch", z.most(4), 3);
        z.undo();
        CHECK.is("all", z.perform(1), 8);
        CHECK.is("1 sent by its end, 0 keeps the other", z.where(1, 2), 0);
    }

    private static void heldSince() {
        CHECK.said("and have been HELD since");
        HomeFreed x = with("st2p2u4b9h30;cz4", "g0:1;(;g1:1;f1:1;g1:1;f1:2;)");
        CHECK.is("all", x.perform(0), 7);
        CHECK.is("freed once only", x.page(1, 5), 1);
        HomeFreed y = with("st2p1u4b9h30;cz4", "(;g0:1;f0:0;(;g0:1;);g0:1;f0:0;)");
        CHECK.is("the first one is another got now", y.perform(0), 7);
        CHECK.is("the last one was freed by the scope", y.most(7), 0);
        HomeFreed z = with("st2p1u4b9h30;cz4", "g0:1;f0:0;(;g0:1;);g0:1;(;f0:2;)");
        CHECK.is("all", z.perform(0), 9);
        CHECK.is("none", z.most(7), 0);
    }

    private static void refusedPerforms() {
        CHECK.said("DO: how many STEPS were done. NONE: no such SCRIPT, no ARENA (STATUS 0).");
        HomeFreed x = new HomeFreed();
        CHECK.is("neither", x.perform(0), NONE);
        Check.tell(x, "x0", 1);
        CHECK.is("no arena", x.perform(0), NONE);
        Check.tell(x, "c", 0);
        for (int odd : new int[] {Integer.MIN_VALUE, -1, 1, 3, 4, Integer.MAX_VALUE}) {
            CHECK.is("script " + odd, x.perform(odd), NONE);
        }
        CHECK.are("status", Shown.status(x), 8, 0, 0, 0);
        CHECK.is("no acts", x.count(4), 0);
        Check.tell(x, "k9", 1);
        CHECK.is("nothing could be done: not refused", x.perform(1), 0);
        CHECK.is("an act", x.count(4), 1);
        CHECK.are("what can't be in it is no refused act", Shown.status(x), 8, 0, 0, 0);
    }

    private static void runs() {
        CHECK.said("RUN of a SCRIPT: how many STEPS can be done; how many PAGES are not EMPTY behind it; "
                + "how many BLOCKS are HELD.");
        String[] all = {"g0:1;g1:2;g0:4", "(;g0:1;g0:4;g9:1;)", "x0;x1", "k9"};
        HomeFreed x = with("st2p4u4b9h30;cz2;cz4", all);
        x.get(0, 2);
        int[][] want = {{3, 3, 4}, {3, 2, 1}, {2, 1, 1}, {0, 1, 1}};
        String before = Shown.whole(x);
        for (int s = 0; s < 4; s++) {
            CHECK.are("run " + s, new int[] {x.run(s, 0), x.run(s, 1), x.run(s, 2)}, want[s]);
            CHECK.alike("apart", Shown.whole(x), before);
            CHECK.is("as done", x.perform(s), want[s][0]);
            CHECK.is("as done", 4 - Integer.bitCount(x.most(4)), want[s][1]);
            CHECK.is("as done", x.most(7), want[s][2]);
            x.undo();
        }
        CHECK.said("RUN: 0 STEPS, 1 PAGES, 2 BLOCKS. NONE: no such SCRIPT, no ARENA, no such what.");
        for (int odd : new int[] {Integer.MIN_VALUE, -1, 4, Integer.MAX_VALUE}) {
            CHECK.is("script " + odd, x.run(odd, 0), NONE);
            CHECK.is("what " + odd, x.run(0, odd), NONE);
        }
        CHECK.is("what", x.run(0, 3), NONE);
        HomeFreed y = new HomeFreed();
        Check.tell(y, "x0", 1);
        CHECK.is("no arena", y.run(0, 0), NONE);
        CHECK.are("no status", Shown.status(x), 0, 0, 0, 0);
        CHECK.are("no status", Shown.status(y), 0, 0, 0, 0);
    }

    private static void waysAre(String what, HomeFreed x, int one, int other, int... want) {
        int[] got = new int[4];
        int[] turned = new int[4];
        for (int i = 0; i < 4; i++) {
            got[i] = x.ways(one, other, i);
            turned[i] = x.ways(other, one, i);
        }
        CHECK.are(what, got, want);
        CHECK.are(what + ", turned round", turned, want);
    }

    private static void howManyWays() {
        CHECK.said("of all ways to run them into one another (each in its order");
        int[][] over = new int[13][13];
        for (int n = 0; n <= 12; n++) {
            over[n][0] = 1;
            for (int k = 1; k <= n; k++) {
                over[n][k] = over[n - 1][k - 1] + over[n - 1][k];
            }
        }
        for (int a = 1; a <= 6; a++) {
            for (int b = 1; b <= 6; b++) {
                String one = "k0" + ";k0".repeat(a - 1);
                String other = "m1" + ";m1".repeat(b - 1);
                int all = over[a + b][a];
                waysAre(a + " and " + b, with("st2p2u4;c", one, other), 0, 1, all, all, 0, 0);
                // the ways are counted also where none goes on beyond its first steps
                waysAre(a + " and " + b, with("st1p2u4;c", "k9" + ";k9".repeat(a - 1), other), 0, 1, all, 0, 0, 0);
            }
        }
    }

    private static void waysThatCanBe() {
        CHECK.said("in how many all STEPS can be");
        // x0 must not stand ahead of k0
        waysAre("one of two", with("st2p2u4;c", "k0", "x0"), 0, 1, 2, 1, 0, 0);
        waysAre("an end and a begin", with("st2p2u4;c", "k0", "x0;x0"), 0, 1, 3, 2, 0, 0);
        waysAre("six and one", with("st2p2u4;c", "k0;k0;k0;k0;k0;k0", "x0"), 0, 1, 7, 1, 0, 0);
        waysAre("six and six", with("st2p2u4;c", "k0;k0;k0;k0;k0;k0", "m1;m1;m1;m1;m1;x0"), 0, 1, 924, 462, 0, 0);
        // none: a number that is never got
        waysAre("none", with("st2p2u4;c", "f0:0", "g0:1"), 0, 1, 2, 0, 1, 0);
        // the arena as it is now
        HomeFreed x = with("st2p2u4;cz4", "g0:1;f0:0", "g1:1;f1:0");
        waysAre("two pages", x, 0, 1, 6, 6, 2, 2);
        x.get(0, 1);
        waysAre("one is taken", x, 0, 1, 6, 0, 2, 2);
        x.turn(1);
        waysAre("1 does not live", x, 0, 1, 6, 0, 2, 1);
    }

    private static void pagesOfWays() {
        CHECK.said("of all (up to the STEP that can't be) the most and the fewest PAGES that are not EMPTY at the end");
        // g ahead of x: abandoned; x ahead of g: g can't be, so the step behind it is not run either
        waysAre("up to it", with("st2p4u4;cz4", "g0:1;g1:1", "x0"), 0, 1, 3, 2, 2, 0);
        // g0 f0 with x0 between them leaves the block of an abandoned page that f0 can't give back
        waysAre("between", with("st2p4u4;cz4", "g0:1;f0:0", "x0"), 0, 1, 3, 1, 1, 0);
        String gets = "g0:1;g0:1;g0:1;g0:1;g0:1;g0:1";
        waysAre("most that can be", with("st2p16u4h30;cz4", gets, gets.replace("g0", "g1")), 0, 1, 924, 924, 12, 12);
        waysAre("all pages at most", with("st2p10u4h30;cz4", gets, gets.replace("g0", "g1")), 0, 1, 924, 0, 10, 10);
        HomeFreed again = with("st2p4u4;cz4", "k0", "m0");
        Check.gets(again, 0, 4, 4);
        waysAre("as it is now", again, 0, 1, 2, 2, 4, 4);
        again.undo();
        again.undo();
        again.undo();
        waysAre("as it is now", again, 0, 1, 2, 2, 1, 1);
        again.undo();
        waysAre("as it is now", again, 0, 1, 2, 2, 0, 0);
        HomeFreed full = with("st1p16u4h30;cz4", "x0", "k0");
        Check.gets(full, 0, 4, 16);
        waysAre("sixteen", full, 0, 1, 2, 1, 16, 16);
    }

    private static void waysOfBlocks() {
        CHECK.said("the numbers of the BLOCKS for each SCRIPT its own");
        HomeFreed x = with("st2p1u4b9h30;c", "g0:1;f0:0", "g0:1;f0:0");
        waysAre("each frees its own", x, 0, 1, 6, 6, 1, 1);
        HomeFreed y = with("st2p1u4b9h30;c", "g0:1;f0:0", "g0:1;f0:1");
        waysAre("a second one is none of its own", y, 0, 1, 6, 0, 1, 1);
        HomeFreed z = with("st2p3u4b2h2;cz2", "g0:1;g0:2;f1:0;f1:1;k0;m1", "g1:2;f0:0;g1:1;x0;x0;g0:2");
        String before = Shown.whole(z);
        CHECK.is("ways", z.ways(0, 1, 0), 924);
        CHECK.alike("apart", Shown.whole(z), before);
    }

    private static void refusedWays() {
        CHECK.said("NONE: no such SCRIPTS, alike, more than 6 STEPS, a SCOPE in one, no ARENA, no such what.");
        String[] all = {"k0;k0;k0;k0;k0;k0", "k0;k0;k0;k0;k0;k0;k0", "(;)", "k0;k0;k0;k0;k0;k0"};
        HomeFreed none = new HomeFreed();
        for (String s : all) {
            Check.tell(none, s, 1);
        }
        CHECK.is("no arena", none.ways(0, 3, 0), NONE);
        HomeFreed x = with("c", Arrays.copyOf(all, 3));
        CHECK.is("none of that number yet", x.ways(0, 3, 0), NONE);
        Check.tell(x, all[3], 1);
        CHECK.is("as many steps as may be", x.ways(0, 3, 0), 924);
        CHECK.is("more than 6", x.ways(0, 1, 0), NONE);
        CHECK.is("more than 6", x.ways(1, 0, 0), NONE);
        CHECK.is("a scope", x.ways(0, 2, 0), NONE);
        CHECK.is("a scope", x.ways(2, 0, 0), NONE);
        for (int s = 0; s < 4; s++) {
            CHECK.is("alike " + s, x.ways(s, s, 0), NONE);
        }
        CHECK.said("WAYS of two unlike SCRIPTS (6 STEPS each at most, no SCOPES)");
        CHECK.is("told alike, but two", x.ways(3, 0, 1), 924);
        HomeFreed y = with("c", "k0" + ";k0".repeat(23), "k0;k0;k0;k0;(;)", "(;);k0;k0", "k0;k0");
        CHECK.is("24 steps", y.ways(0, 3, 0), NONE);
        CHECK.is("24 steps", y.ways(3, 0, 0), NONE);
        CHECK.is("a scope at the end of 6", y.ways(3, 1, 0), NONE);
        CHECK.is("a scope at the end of 6", y.ways(1, 3, 0), NONE);
        CHECK.is("a scope ahead", y.ways(2, 3, 0), NONE);
        for (int odd : new int[] {Integer.MIN_VALUE, -1, 4, Integer.MAX_VALUE}) {
            CHECK.is("one " + odd, x.ways(odd, 0, 0), NONE);
            CHECK.is("other " + odd, x.ways(0, odd, 0), NONE);
            CHECK.is("both " + odd, x.ways(odd, odd, 0), NONE);
            CHECK.is("what " + odd, x.ways(0, 3, odd), NONE);
        }
        CHECK.are("no status", Shown.status(x), 0, 0, 0, 0);
    }
}
