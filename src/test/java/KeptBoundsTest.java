import java.math.BigInteger;
import java.util.ArrayList;
import java.util.List;

/** What is kept: the TAPE, ACTS and UNDO, the LOG, STATUS, YEARS, IMAGE and BACK (promises 1 to 3, 5, 20 to 23, 35 to 37). */
public final class KeptBoundsTest {
    private static final int NONE = HomeFreed.NONE;
    private static final int HIDDEN = HomeFreed.HIDDEN;
    private static final Check CHECK = new Check();

    public static void main(String[] args) {
        newObject();
        feeding();
        ending();
        newArenas();
        undoneActs();
        undoneInTheLargest();
        fortyActs();
        undoneLog();
        sixtyLogged();
        statusOfEach();
        drawnYears();
        yearsAsActs();
        yearsOutOfBounds();
        images();
        imagesOfArenas();
        counts();
        CHECK.close("KeptBoundsTest");
    }

    private static void newObject() {
        CHECK.said("`NONE = -1`: None; refused. `HIDDEN = -1000000`: Not told.");
        CHECK.is("NONE", NONE, -1);
        CHECK.is("HIDDEN", HIDDEN, -1000000);
        CHECK.said("`HomeFreed()`: No ARENA.");
        HomeFreed x = new HomeFreed();
        for (int what = 0; what < 5; what++) {
            CHECK.is("count " + what, x.count(what), 0);
            CHECK.is("rule " + what, x.rule(what), NONE);
        }
        for (int what = 0; what < 12; what++) {
            CHECK.is("most " + what, x.most(what), HIDDEN);
        }
        for (int what = 0; what < 7; what++) {
            CHECK.throwsNoSuch("page(0, " + what + ")", x, 0, what);
        }
        CHECK.are("status", Shown.status(x), 0, 0, 0, 0);
        int[] none = {x.size(0), x.list(0, 0, 0), x.thread(0, 0), x.queue(0, 0, 0), x.outbox(0, 0, 0), x.held(0), x.undo(),
            x.log(0, 0), x.waste(0), x.waste(1), x.classes(0, 0), x.classes(0, NONE), x.would(0, 1), x.where(0, 0),
            x.series(0, 1, 0), x.series(0, 1, NONE), x.cheapest(0), x.cheapest(1), x.run(0, 0), x.ways(0, 1, 0),
            x.shares(0, 0), x.image(), x.back(), x.years(1, 0L)};
        for (int i = 0; i < none.length; i++) {
            CHECK.is("none " + i, none[i], NONE);
        }
        CHECK.are("no status by these", Shown.status(x), 0, 0, 0, 0);
        int[] refused = {x.get(0, 1), x.free(0, 0), x.tick(0), x.send(0), x.turn(0), x.perform(0)};
        for (int i = 0; i < refused.length; i++) {
            CHECK.is("refused " + i, refused[i], NONE);
        }
        CHECK.are("each is counted", Shown.status(x), 6, 0, 0, 0);
        CHECK.is("no such thread is the first reason", x.get(0, 41), NONE);
        CHECK.are("no such thread", Shown.status(x), 7, 0, 0, 0);
        CHECK.is("a fault at 0", x.fault(0), 0);
        CHECK.is("a fault at 0", x.fault(1), 0);
        CHECK.is("no text", x.text(0), NONE);
        CHECK.is("no text", x.text(1), NONE);
    }

    private static void feeding() {
        CHECK.said("Twenty bytes more come to the TAPE (of each number the highest first; bytes of 0 are left out)");
        HomeFreed x = new HomeFreed();
        CHECK.is("none", x.feed(0, 0, 0, 0, 0), 0);
        CHECK.is("one", x.feed(0, 0, 0, 0, 's'), 1);
        CHECK.is("one from the highest", x.feed('u' << 24, 0, 0, 0, 0), 2);
        CHECK.is("two", x.feed(0, '1' << 24 | '7', 0, 0, 0), 4);
        CHECK.is("three from three", x.feed(';' << 16, 0, 'c' << 8, 'z' << 24, 0), 7);
        CHECK.is("two more", x.feed(0, 0, 0, 0, '1' << 16 | '7' << 8), 9);
        CHECK.is("read in that order", x.text(0), 1);
        CHECK.is("units", x.rule(2), 17);
        CHECK.is("size", x.size(0), 17);
        CHECK.is("bytes over 127", x.feed(0x80ff8081, Integer.MIN_VALUE, -1, 0, 255), 10);
        x.end(0);
        CHECK.is("twenty", x.feed(0x63202020, 0x20202020, 0x20202020, 0x20202020, 0x20202078), 20);
        CHECK.is("the last one is the twentieth", x.fault(0), 19);
        CHECK.said("how many it has. NONE: more than 240.");
        HomeFreed y = new HomeFreed();
        for (int i = 1; i <= 11; i++) {
            CHECK.is("twenty each", y.feed(-1, -1, -1, -1, -1), 20 * i);
        }
        CHECK.is("219 and 20 more, but one", y.feed(-1, -1, -1, -1, 0x00ffffff), 239);
        for (int[] two : new int[][] {{257, 0, 0, 0, 0}, {1, 1, 0, 0, 0}, {0, 1, 0, 1, 0}, {0, 0, 0, 1, 1}, {-1, -1, -1, -1, -1}}) {
            CHECK.is("more than 240", y.feed(two[0], two[1], two[2], two[3], two[4]), NONE);
            CHECK.is("not one of them came", y.count(2), 239);
        }
        CHECK.is("240", y.feed(0, 0, 'x', 0, 0), 240);
        CHECK.is("none more", y.feed(0, 0, 0, 0, 0), 240);
        CHECK.is("one more", y.feed(0, 0, 0, 0, 1), NONE);
        CHECK.is("one more", y.feed(1 << 24, 0, 0, 0, 0), NONE);
        CHECK.is("as it was", y.count(2), 240);
    }

    private static void ending() {
        CHECK.said("The TAPE has its first n bytes alone. False: n.");
        HomeFreed x = new HomeFreed();
        CHECK.is("0 of 0", x.end(0) ? 1 : 0, 1);
        CHECK.is("1 of 0", x.end(1) ? 1 : 0, 0);
        Check.feed(x, "cz2;cz4;cz2");
        for (int n : new int[] {Integer.MIN_VALUE, -1, 12, 240, 241, Integer.MAX_VALUE}) {
            CHECK.is("end " + n, x.end(n) ? 1 : 0, 0);
            CHECK.is("as it was", x.count(2), 11);
        }
        CHECK.is("all", x.end(11) ? 1 : 0, 1);
        CHECK.is("as it was", x.fault(0), 11);
        CHECK.is("seven", x.end(7) ? 1 : 0, 1);
        CHECK.is("those behind are gone", x.end(8) ? 1 : 0, 0);
        CHECK.is("the first ones", x.fault(0), NONE);
        Check.feed(x, ";cz5");
        CHECK.is("more come behind them", x.text(0), 3);
        CHECK.is("empty then", x.end(1) ? 1 : 0, 0);
        CHECK.is("empty then", x.end(0) ? 1 : 0, 1);
    }

    private static HomeFreed busy() {
        HomeFreed x = Check.arena("st4p16u8b3h4;c;cz2;cz4");
        Check.tell(x, "g0:1;g1:2;f1:0;x2", 1);
        x.perform(0);
        Check.gets(x, 3, 1, 9);
        x.free(0, 200);
        x.image();
        x.years(10, 5L);
        x.get(9, 1);
        x.get(0, 9);
        return x;
    }

    private static void newArenas() {
        CHECK.said("The TAPE (empty then) is the ARENA (all PAGES EMPTY; all that was of another one is gone "
                + "but SCRIPTS, STATUS): how many CLASSES");
        HomeFreed x = busy();
        CHECK.is("classes", Check.tell(x, "st3p5u9b2h7;cz3;cz9", 0), 2);
        CHECK.is("the tape is empty", x.count(2), 0);
        HomeFreed fresh = Check.arena("st3p5u9b2h7;cz3;cz9");
        CHECK.alike("as of a new object", Shown.heap(x), Shown.heap(fresh));
        CHECK.are("counts", new int[] {x.count(0), x.count(1), x.count(3), x.count(4)}, 2, 1, 0, 0);
        CHECK.are("status stays", Shown.status(x), 1, 1, 0, 0);
        CHECK.is("no act", x.undo(), NONE);
        CHECK.is("no image", x.back(), NONE);
        CHECK.is("no log", x.log(0, 0), NONE);
        CHECK.is("the script stays", x.step(0, 3, 1), 2);
        CHECK.is("and can be done", x.perform(0), 4);
        CHECK.said("NONE: a FAULT, no such sort, there are four SCRIPTS.");
        for (String text : new String[] {"cz9;cz3", "s", "", "c;c", "cz1;x"}) {
            HomeFreed y = busy();
            Check.feed(y, text);
            String before = Shown.whole(y);
            for (int sort : new int[] {Integer.MIN_VALUE, -1, 0, 1, 2, Integer.MAX_VALUE}) {
                CHECK.is("text(" + sort + ") of '" + text + "'", y.text(sort), NONE);
            }
            CHECK.alike("as before", Shown.whole(y), before);
            CHECK.is("acts", y.undo(), 20);
            CHECK.is("the image", y.back() >= 0 ? 1 : 0, 1);
        }
    }

    private static void undoneActs() {
        CHECK.said("All these are ACTS (a SCRIPT is one): the latest 40 can be UNDONE one by one (LOG, too).");
        HomeFreed x = Check.arena("st3p4u4b2h3;cz1;cz2");
        Check.tell(x, "g0:1;(;g1:2;g2:1;x1;f0:0;);k0", 1);
        List<String> states = new ArrayList<>();
        List<Runnable> acts = List.of(() -> x.get(0, 1), () -> x.get(0, 1), () -> x.get(0, 2), () -> x.free(1, 0),
                () -> x.free(1, 1), () -> x.free(0, 100), () -> x.turn(1), () -> x.perform(0), () -> x.tick(0),
                () -> x.send(2), () -> x.turn(1), () -> x.years(1, 11L), () -> x.get(1, 1), () -> x.turn(0), () -> x.tick(1));
        for (Runnable act : acts) {
            states.add(Shown.heap(x));
            act.run();
            CHECK.is("each is one", x.count(4), states.size());
        }
        for (int i = states.size() - 1; i >= 0; i--) {
            CHECK.is("how many still can be", x.undo(), i);
            CHECK.is("as told", x.count(4), i);
            CHECK.alike("as ahead of act " + i, Shown.heap(x), states.get(i));
        }
        CHECK.said("The latest ACT is UNDONE: how many still can be. NONE: none.");
        CHECK.is("none", x.undo(), NONE);
        CHECK.is("none", x.undo(), NONE);
        CHECK.alike("as at first", Shown.heap(x), states.get(0));
        x.get(0, 1);
        CHECK.is("an act anew", x.undo(), 0);
    }

    /** Four THREADS, sixteen PAGES, six CLASSES: the last one of each is undone and brought back, too. */
    private static void undoneInTheLargest() {
        CHECK.said("can be UNDONE one by one (LOG, too)");
        HomeFreed x = Check.arena("st4p16u40b9h30;c;cz2;cz3;cz4;cz5;cz40");
        for (int i = 0; i < 15; i++) {
            x.get(i % 4, 40);
        }
        for (int i = 0; i < 8; i++) {
            x.get(3, 5);
        }
        x.free(3, 1507);
        x.free(2, 1506);
        String before = Shown.heap(x);
        CHECK.is("the last page is the last thread's, of the class ahead of the last", x.page(15, 1), 3);
        int held = x.image();
        x.turn(3);
        CHECK.is("abandoned", x.page(15, 1), NONE);
        x.get(0, 5);
        CHECK.is("adopted", x.page(15, 1), 0);
        x.undo();
        x.undo();
        CHECK.alike("undone", Shown.heap(x), before);
        x.turn(3);
        x.get(0, 5);
        CHECK.is("back", x.back(), held);
        CHECK.alike("back", Shown.heap(x), before);
    }

    private static void fortyActs() {
        CHECK.said("the latest 40 can be UNDONE one by one");
        HomeFreed x = Check.arena("st2p16u40b9h30;c");
        List<String> states = new ArrayList<>();
        for (int i = 0; i < 95; i++) {
            states.add(Shown.heap(x));
            CHECK.is("a get", x.get(0, 1), i / 40 * 100 + i % 40);
            CHECK.is("40 at most", x.count(4), Math.min(40, i + 1));
        }
        for (int i = 0; i < 10; i++) {
            CHECK.is("undone", x.undo(), 39 - i);
        }
        CHECK.alike("ten acts ago", Shown.heap(x), states.get(85));
        for (int i = 0; i < 5; i++) {
            x.get(0, 1);
        }
        CHECK.is("35", x.count(4), 35);
        for (int i = 34; i >= 0; i--) {
            CHECK.is("undone", x.undo(), i);
        }
        CHECK.is("no more", x.undo(), NONE);
        CHECK.alike("those ahead of the latest 40 stay", Shown.heap(x), states.get(55));
        for (int i = 0; i < 41; i++) {
            x.turn(1);
        }
        for (int i = 39; i >= 0; i--) {
            CHECK.is("undone", x.undo(), i);
        }
        CHECK.is("the first of 41 stays", x.thread(1, 0), 0);
        CHECK.is("no more", x.undo(), NONE);
    }

    private static void undoneLog() {
        CHECK.said("(LOG, too)");
        HomeFreed x = Check.arena("st2p16u40b9h30;c");
        Check.tell(x, "g0:1" + ";g0:1".repeat(23), 1);
        for (int i = 0; i < 3; i++) {
            x.perform(0);
        }
        CHECK.is("72 were got", x.count(3), 60);
        CHECK.is("the oldest that is there", x.log(59, 0), 12);
        x.undo();
        CHECK.is("48 were got", x.count(3), 48);
        CHECK.is("the first one is there again", x.log(47, 0), 0);
        CHECK.is("no more", x.log(48, 0), NONE);
        x.undo();
        x.undo();
        CHECK.is("none", x.count(3), 0);
        CHECK.is("none", x.log(0, 0), NONE);
    }

    private static void sixtyLogged() {
        CHECK.said("The LOG: BLOCKS that were got, who by, HOW (the latest 60).");
        HomeFreed x = Check.arena("st4p16u40b9h30;c");
        for (int i = 0; i < 130; i++) {
            x.get(i % 4, 1);
            CHECK.is("60 at most", x.count(3), Math.min(60, i + 1));
        }
        for (int i = 0; i < 60; i++) {
            int nth = 129 - i;
            CHECK.is("block " + i, x.log(i, 0), nth % 4 * 100 + nth / 4);
            CHECK.is("by " + i, x.log(i, 1), nth % 4);
            CHECK.is("how " + i, x.log(i, 2), nth < 4 ? 5 : 0);
        }
        CHECK.said("LOG, the latest (i 0), the one ahead of it (1) ..: 0 the BLOCK, 1 the THREAD, 2 HOW. NONE: no such ones.");
        for (int odd : new int[] {Integer.MIN_VALUE, -1, 60, 61, Integer.MAX_VALUE}) {
            CHECK.is("i " + odd, x.log(odd, 0), NONE);
            CHECK.is("what " + odd, x.log(0, odd), NONE);
        }
        CHECK.is("what 3", x.log(0, 3), NONE);
        HomeFreed y = Check.arena("c");
        y.get(0, 1);
        CHECK.is("one", y.log(0, 0), 0);
        CHECK.is("no second", y.log(1, 0), NONE);
        y.free(0, 0);
        y.tick(0);
        y.get(0, 2);
        CHECK.is("only what was got", y.count(3), 1);
        HomeFreed z = Check.arena("st1p16u40b9h30;c;cz40");
        Check.gets(z, 0, 40, 15);
        Check.gets(z, 0, 1, 40);
        CHECK.is("the greatest number", z.log(0, 0), 1539);
    }

    private static void statusOfEach() {
        CHECK.said("STATUS: how many ACTS were refused as there was no such one (0), out of bounds, too large for all CLASSES "
                + "(1), the THREAD does not live, the BLOCK is not HELD (2), there is no room (3)");
        HomeFreed x = Check.arena("st2p1u4b9h30;cz4");
        for (int i = 1; i <= 12; i++) {
            x.get(2, 1);
            x.get(0, 5);
            x.free(0, 0);
            CHECK.are("counted up", Shown.status(x), 2 * i, i, 0, 0);
        }
        x.get(0, 4);
        x.get(0, 4);
        x.get(1, 4);
        x.turn(1);
        x.tick(1);
        CHECK.are("counted up", Shown.status(x), 24, 12, 1, 2);
        CHECK.said("not UNDONE");
        x.undo();
        x.undo();
        CHECK.are("not undone", Shown.status(x), 24, 12, 1, 2);
        x.image();
        x.send(7);
        x.back();
        CHECK.are("not brought back", Shown.status(x), 25, 12, 1, 2);
        Check.tell(x, "c", 0);
        CHECK.are("not gone by another arena", Shown.status(x), 25, 12, 1, 2);
        CHECK.said("STATUS. NONE: no such what.");
        for (int odd : new int[] {Integer.MIN_VALUE, -1, 4, 5, Integer.MAX_VALUE}) {
            CHECK.is("what " + odd, x.status(odd), NONE);
        }
    }

    /** YEARS told a second time, in numbers without bounds that are cut to 64 bits, and done by hand. */
    private static final class ByHand {
        private static final BigInteger ROUND = BigInteger.ONE.shiftLeft(64);
        private static final BigInteger FACTOR = new BigInteger("6364136223846793005");
        private static final BigInteger MORE = new BigInteger("1442695040888963407");
        private final HomeFreed y;
        private BigInteger x;
        int seenDead = 0;
        int seenTooLarge = 0;
        int seenNoRoom = 0;
        int seenNoneHeld = 0;

        ByHand(HomeFreed y, long seed) {
            this.y = y;
            x = BigInteger.valueOf(seed).mod(ROUND);
        }

        private int draw(int j) {
            x = x.multiply(FACTOR).add(MORE).mod(ROUND);
            return x.shiftRight(33).mod(BigInteger.valueOf(j)).intValueExact();
        }

        void year() {
            int t = draw(y.rule(0));
            seenDead += y.thread(t, 0) == 1 ? 0 : 1;
            if (draw(3) != 2) {
                int n = draw(y.rule(2)) + 1;
                seenTooLarge += y.waste(n) == NONE ? 1 : 0;
                seenNoRoom += y.waste(n) != NONE && y.thread(t, 0) == 1 && y.would(t, n) == NONE ? 1 : 0;
                y.get(t, n);
                return;
            }
            List<Integer> held = new ArrayList<>();
            for (int b = 0; b < 1600; b++) {
                if (y.held(b) == 1) {
                    held.add(b);
                }
            }
            seenNoneHeld += held.isEmpty() ? 1 : 0;
            if (!held.isEmpty()) {
                y.free(t, held.get(draw(held.size())));
            }
        }
    }

    private static void drawnYears() {
        long[] seeds = {0L, 1L, -1L, 2L, Long.MAX_VALUE, Long.MIN_VALUE, Long.MIN_VALUE + 1, 1L << 32, 1L << 33, -(1L << 33),
            0x123456789abcdef0L, 0xfedcba9876543210L, 6364136223846793005L, -1442695040888963407L};
        String[] arenas = {"st4p16u40b2h3;cz2;cz5;cz9;cz20;cz40", "st3p2u8b3h5;c;cz3", "st1p1u4b1h1;cz2", "c;cz3;cz16"};
        int[] seen = new int[4];
        for (String arena : arenas) {
            for (int dead = 0; dead < 2; dead++) {
                for (long seed : seeds) {
                    ByHand hand = oneYearAfterAnother(arena, seed, dead == 1);
                    seen[0] += hand.seenDead;
                    seen[1] += hand.seenTooLarge;
                    seen[2] += hand.seenNoRoom;
                    seen[3] += hand.seenNoneHeld;
                }
            }
        }
        CHECK.said("(what can't be is nothing; it changes nothing)");
        for (int i = 0; i < 4; i++) {
            CHECK.is("it happened, sort " + i, seen[i] > 10 ? 1 : 0, 1);
        }
    }

    private static ByHand oneYearAfterAnother(String arena, long seed, boolean dead) {
        HomeFreed y = Check.arena(arena);
        if (dead) {
            y.turn(0);
        }
        ByHand hand = new ByHand(y, seed);
        for (int n = 1; n <= 40; n++) {
            hand.year();
            if (n % 13 == 1) {
                HomeFreed x = Check.arena(arena);
                if (dead) {
                    x.turn(0);
                }
                String told = "years(" + n + ", " + seed + ") of " + arena;
                CHECK.said("YEARS by a seed: n (1 .. 40) times: a draw of how many THREADS there are; a draw of 3; "
                        + "by 0 and 1: a draw of UNITS: that THREAD GETS 1 more than it; by 2: is any BLOCK HELD, "
                        + "a draw of how many are: that one of these, rising, is FREED by it");
                CHECK.is(told, x.years(n, seed), y.most(7));
                CHECK.said("x, at first the seed, becomes x times 6364136223846793005 and 1442695040888963407 "
                        + "(64 bits, going round); a draw of j: (x shifted right by 33, without sign) modulo j.");
                CHECK.alike(told, Shown.heap(x), Shown.heap(y));
                CHECK.said("No STATUS.");
                CHECK.are(told, Shown.status(x), 0, 0, 0, 0);
            }
        }
        return hand;
    }

    private static void yearsAsActs() {
        CHECK.said("Each time is one ACT. No STATUS.");
        HomeFreed x = Check.arena("st2p2u8b2h3;cz2;cz4");
        HomeFreed y = Check.arena("st2p2u8b2h3;cz2;cz4");
        ByHand hand = new ByHand(y, 77L);
        List<String> states = new ArrayList<>();
        for (int i = 0; i < 40; i++) {
            states.add(Shown.heap(y));
            hand.year();
        }
        x.turn(0);
        x.turn(0);
        CHECK.is("held", x.years(40, 77L), y.most(7));
        CHECK.is("also those in which nothing could be", x.count(4), 40);
        CHECK.is("some could not", hand.seenTooLarge > 0 && hand.seenNoRoom > 0 ? 1 : 0, 1);
        for (int i = 39; i >= 0; i--) {
            CHECK.is("undone one by one", x.undo(), i);
            CHECK.alike("undone one by one", Shown.heap(x), states.get(i));
        }
        CHECK.is("no more", x.undo(), NONE);
        HomeFreed z = Check.arena("st1;c");
        z.turn(0);
        CHECK.is("nobody lives", z.years(7, 1L), 0);
        CHECK.is("seven acts and one", z.count(4), 8);
        CHECK.are("no status", Shown.status(z), 0, 0, 0, 0);
    }

    private static void yearsOutOfBounds() {
        CHECK.said("YEARS: how many BLOCKS are HELD. NONE: no ARENA, out of bounds.");
        HomeFreed x = busy();
        String before = Shown.whole(x);
        for (int n : new int[] {Integer.MIN_VALUE, -40, -1, 0, 41, 42, Integer.MAX_VALUE}) {
            CHECK.is("n " + n, x.years(n, 3L), NONE);
        }
        CHECK.alike("as before", Shown.whole(x), before);
        CHECK.are("no status", Shown.status(x), 1, 1, 0, 0);
        CHECK.is("1", x.years(1, 3L), x.most(7));
        CHECK.is("40", x.years(40, 3L), x.most(7));
    }

    private static void images() {
        CHECK.said("An IMAGE keeps PAGES, QUEUES, lists, OUTBOXES, who lives, how many GETS each did, the LOG; "
                + "BACK: they are so again (no ACT can be UNDONE then).");
        HomeFreed x = busy();
        x.turn(1);
        String kept = Shown.heap(x);
        int acts = x.count(4);
        CHECK.is("held", x.image(), x.most(7));
        CHECK.is("no act", x.count(4), acts);
        CHECK.alike("nothing is changed", Shown.heap(x), kept);
        x.years(40, 9L);
        x.turn(1);
        x.turn(0);
        CHECK.is("changed", Shown.heap(x).equals(kept) ? 1 : 0, 0);
        int held = x.back();
        CHECK.is("held", held, x.most(7));
        CHECK.alike("so again", Shown.heap(x), kept);
        CHECK.is("no act", x.count(4), 0);
        CHECK.is("none can be undone", x.undo(), NONE);
        CHECK.alike("none was", Shown.heap(x), kept);
        x.years(3, 1L);
        CHECK.is("acts anew", x.undo(), 2);
        CHECK.is("back again", x.back(), held);
        CHECK.alike("so again", Shown.heap(x), kept);
        CHECK.is("and at once", x.back(), held);
        CHECK.said("An IMAGE (instead of the one ahead)");
        x.get(0, 1);
        String other = Shown.heap(x);
        CHECK.is("one more", x.image(), held + 1);
        x.undo();
        CHECK.alike("it can be undone still", Shown.heap(x), kept);
        CHECK.is("the latest image", x.back(), held + 1);
        CHECK.alike("the latest image", Shown.heap(x), other);
    }

    private static void imagesOfArenas() {
        CHECK.said("BACK: how many BLOCKS are HELD. NONE: no IMAGE of this ARENA.");
        HomeFreed x = new HomeFreed();
        CHECK.is("no arena", x.back(), NONE);
        CHECK.is("no arena", x.image(), NONE);
        Check.tell(x, "c", 0);
        CHECK.is("none yet", x.back(), NONE);
        x.get(0, 1);
        CHECK.is("still none, and the act stays", x.back(), NONE);
        CHECK.is("the act stays", x.count(4), 1);
        CHECK.is("one", x.image(), 1);
        Check.feed(x, "c;c");
        CHECK.is("a text that is refused", x.text(0), NONE);
        CHECK.is("the image stays", x.back(), 1);
        Check.tell(x, "c", 0);
        CHECK.is("of another arena, be it told alike", x.back(), NONE);
        CHECK.is("as it was", x.most(7), 0);
        CHECK.is("an image of nothing", x.image(), 0);
        x.get(0, 1);
        CHECK.is("back", x.back(), 0);
        CHECK.is("empty", x.most(4), 63);
        CHECK.are("no status by these", Shown.status(x), 0, 0, 0, 0);
    }

    private static void counts() {
        CHECK.said("0 CLASSES, 1 SCRIPTS, 2 bytes of the TAPE, 3 how long the LOG is, 4 ACTS that can be UNDONE. "
                + "HIDDEN for others.");
        HomeFreed x = Check.arena("c;cz2;cz3;cz4;cz5;cz6");
        Check.feed(x, " ".repeat(240));
        Check.gets(x, 0, 1, 3);
        x.turn(1);
        CHECK.are("counts", new int[] {x.count(0), x.count(1), x.count(2), x.count(3), x.count(4)}, 6, 0, 240, 3, 4);
        for (int odd : new int[] {Integer.MIN_VALUE, -1, 5, Integer.MAX_VALUE}) {
            CHECK.is("what " + odd, x.count(odd), HIDDEN);
        }
    }
}
