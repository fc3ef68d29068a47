/** ==== 3: WASTE, CLASSES, WOULD, WHERE, SERIES, CHEAPEST, SHARES, FULLEST and what stands beside it (promises 25 to 34). */
public final class AnswerBoundsTest {
    private static final int NONE = HomeFreed.NONE;
    private static final int HIDDEN = HomeFreed.HIDDEN;
    private static final int[] FAR = {Integer.MIN_VALUE, -1000000, -100, -2, 1600, 100000, Integer.MAX_VALUE};
    private static final Check CHECK = new Check();

    public static void main(String[] args) {
        waste();
        worst();
        classes();
        classesOfAllSorts();
        would();
        where();
        whereInOutboxes();
        series();
        roomOfSeries();
        ticksOfSeries();
        cheapest();
        shares();
        fullestAndRichest();
        bits();
        howMany();
        idle();
        refusedMost();
        CHECK.close("AnswerBoundsTest");
    }

    private static void waste() {
        CHECK.said("WASTE of n (1 .. 40): SIZE of its CLASS less n");
        HomeFreed x = Check.arena("su40;cz4;cz10;cz40");
        for (int n = 1; n <= 40; n++) {
            CHECK.is("n " + n, x.waste(n), (n <= 4 ? 4 : n <= 10 ? 10 : 40) - n);
        }
        CHECK.said("WASTE (WORST: n 0). NONE: too large, no ARENA, out of bounds.");
        HomeFreed y = Check.arena("su40;cz39");
        CHECK.is("39", y.waste(39), 0);
        CHECK.is("too large", y.waste(40), NONE);
        for (int n : new int[] {Integer.MIN_VALUE, -1, 41, 100, Integer.MAX_VALUE}) {
            CHECK.is("n " + n, x.waste(n), NONE);
            CHECK.is("n " + n, y.waste(n), NONE);
        }
        HomeFreed none = new HomeFreed();
        CHECK.is("no arena", none.waste(1), NONE);
        CHECK.is("no arena", none.waste(0), NONE);
        CHECK.are("no status", Shown.status(x), 0, 0, 0, 0);
    }

    private static void worst() {
        CHECK.said("WORST: the n (1 .. the greatest SIZE) with the most WASTE by SIZE (of several the least)");
        String[] arenas = {"c", "cz2", "c;cz2;cz3;cz4", "su40;cz40", "su40;c;cz40", "su40;cz4;cz10;cz40", "su40;c;cz4;cz10",
            "su40;c;cz3;cz12", "su40;c;cz4;cz6;cz12", "su40;cz2;cz4;cz8;cz16", "su40;c;cz2;cz6;cz12;cz24", "su40;c;cz3;cz6;cz7"};
        int[] want = {1, 1, 1, 1, 2, 1, 2, 4, 2, 1, 3, 2};
        for (int i = 0; i < arenas.length; i++) {
            CHECK.is(arenas[i], Check.arena(arenas[i]).waste(0), want[i]);
        }
        for (int a = 1; a <= 12; a++) {
            for (int b = a + 1; b <= 40; b++) {
                // in a the first n is the worst: a - 1 of a; in b it is a + 1: b - a - 1 of b
                int want1 = (b - a - 1) * a > (a - 1) * b ? a + 1 : 1;
                CHECK.is(a + " and " + b, Check.arena("su40;cz" + a + ";cz" + b).waste(0), want1);
            }
        }
    }

    private static void classes() {
        CHECK.said("CLASSES for q (0 .. 90): SIZES, the first one 1, each next one the greatest (the UNITS at most) of which "
                + "100 times what n wastes in it, n 1 more than the SIZE ahead, is no more than q times it; up to UNITS");
        classesAre("su40;c", 90, 1, 20, 40);
        classesAre("su40;c", 89, 1, 18, 40);
        classesAre("su40;c", 75, 1, 8, 36, 40);
        classesAre("su40;c", 74, 1, 7, 30, 40);
        classesAre("su40;c", 50, 1, 4, 10, 22, 40);
        classesAre("su40;c", 49, 1, 3, 7, 15, 31, 40);
        classesAre("su4;c", 90, 1, 4);
        classesAre("su4;c", 50, 1, 4);
        classesAre("su4;c", 49, 1, 3, 4);
        classesAre("su4;c", 33, 1, 2, 4);
        classesAre("su4;c", 25, 1, 2, 4);
        classesAre("su4;c", 24, 1, 2, 3, 4);
        classesAre("su4;c", 0, 1, 2, 3, 4);
        classesAre("su8;cz8", 50, 1, 4, 8);
        int[] all = new int[40];
        for (int i = 0; i < 40; i++) {
            all[i] = i + 1;
        }
        classesAre("su40;c", 0, all);
        classesAre("su40;c", 2, all);
        CHECK.said("CLASSES: how many (i NONE), the i-th. NONE: no ARENA, out of bounds, no such one.");
        HomeFreed x = Check.arena("su40;c");
        for (int odd : FAR) {
            CHECK.is("q " + odd, x.classes(odd, 0), NONE);
            CHECK.is("q " + odd, x.classes(odd, NONE), NONE);
            CHECK.is("i " + odd, x.classes(0, odd), NONE);
        }
        CHECK.is("q", x.classes(-1, 0), NONE);
        CHECK.is("q", x.classes(91, 0), NONE);
        CHECK.is("i", x.classes(0, 40), NONE);
        CHECK.is("i", x.classes(90, 3), NONE);
        CHECK.is("no arena", new HomeFreed().classes(50, 0), NONE);
        CHECK.is("no arena", new HomeFreed().classes(50, NONE), NONE);
    }

    private static void classesAre(String arena, int q, int... want) {
        HomeFreed x = Check.arena(arena);
        CHECK.is(arena + " how many for " + q, x.classes(q, NONE), want.length);
        for (int i = 0; i < want.length; i++) {
            CHECK.is(arena + " for " + q + " at " + i, x.classes(q, i), want[i]);
        }
        CHECK.is(arena + " behind the last for " + q, x.classes(q, want.length), NONE);
    }

    /** Each SIZE is as large as may be: the next one greater wastes too much, or there is none. */
    private static void classesOfAllSorts() {
        CHECK.said("each next one the greatest (the UNITS at most)");
        for (int units = 4; units <= 40; units++) {
            HomeFreed x = Check.arena("su" + units + ";c");
            for (int q = 0; q <= 90; q++) {
                int many = x.classes(q, NONE);
                CHECK.is("the first", x.classes(q, 0), 1);
                CHECK.is("the last", x.classes(q, many - 1), units);
                for (int i = 1; i < many; i++) {
                    int n = x.classes(q, i - 1) + 1;
                    int size = x.classes(q, i);
                    boolean fits = 100 * (size - n) <= q * size;
                    boolean next = size == units || 100 * (size + 1 - n) > q * (size + 1);
                    CHECK.is(units + " units, q " + q + ", size " + size, fits && next && size >= n ? 1 : 0, 1);
                }
            }
        }
    }

    private static void would() {
        CHECK.said("WOULD of a THREAD that lives and n: HOW it would GET n (none: NONE).");
        HomeFreed x = Check.arena("st3p2u4b1h30;cz2;cz4");
        CHECK.is("empty", x.would(2, 4), 5);
        x.get(0, 2);
        CHECK.is("ready", x.would(0, 1), 0);
        CHECK.is("empty", x.would(1, 1), 5);
        x.get(1, 4);
        CHECK.is("no room", x.would(0, 4), NONE);
        CHECK.is("no room, its only page has nothing", x.would(1, 4), NONE);
        CHECK.is("no room", x.would(2, 1), NONE);
        x.turn(0);
        CHECK.is("adopted", x.would(1, 2), 4);
        CHECK.is("adopted", x.would(2, 1), 4);
        String before = Shown.whole(x);
        CHECK.said("WOULD. NONE: it can't be, no such THREAD, it does not live, n out of bounds.");
        CHECK.is("it does not live", x.would(0, 2), NONE);
        CHECK.is("too large", x.would(1, 5), NONE);
        CHECK.is("too large", x.would(1, 40), NONE);
        for (int odd : FAR) {
            CHECK.is("n " + odd, x.would(1, odd), NONE);
            CHECK.is("thread " + odd, x.would(odd, 1), NONE);
        }
        CHECK.is("n 0", x.would(1, 0), NONE);
        CHECK.is("n 41", x.would(1, 41), NONE);
        CHECK.is("thread 3", x.would(3, 1), NONE);
        CHECK.is("thread -1", x.would(-1, 1), NONE);
        CHECK.alike("apart", Shown.whole(x), before);
        CHECK.are("no status", Shown.status(x), 0, 0, 0, 0);
    }

    private static void whereIs(HomeFreed x, int block, int... want) {
        CHECK.are("where " + block,
                new int[] {x.where(block, 0), x.where(block, 1), x.where(block, 2), x.where(block, 3)}, want);
    }

    private static void where() {
        CHECK.said("WHERE a BLOCK is: 0 HELD, 1 READY, 2 LOCAL, 3 FOREIGN, 4 in an OUTBOX; its place there (0 the front; "
                + "HELD: NONE); whose OUTBOX (else NONE); by how many more BLOCKS in that OUTBOX it would GO HOME (else NONE).");
        HomeFreed x = Check.arena("st4p16u40b9h30;cz2;cz40");
        for (int i = 0; i < 15; i++) {
            x.get(1, 40);
        }
        Check.gets(x, 0, 1, 6);
        whereIs(x, 1505, 0, NONE, NONE, NONE);
        whereIs(x, 1506, 1, 0, NONE, NONE);
        whereIs(x, 1519, 1, 13, NONE, NONE);
        whereIs(x, 1520, NONE, NONE, NONE, NONE);
        x.free(0, 1500);
        x.free(0, 1504);
        whereIs(x, 1504, 2, 0, NONE, NONE);
        whereIs(x, 1500, 2, 1, NONE, NONE);
        x.free(2, 1501);
        x.send(2);
        x.free(2, 1503);
        x.send(2);
        whereIs(x, 1503, 3, 0, NONE, NONE);
        whereIs(x, 1501, 3, 1, NONE, NONE);
        x.free(3, 1502);
        whereIs(x, 1502, 4, 0, 3, 8);
        x.free(3, 1505);
        whereIs(x, 1502, 4, 1, 3, 7);
        whereIs(x, 1505, 4, 0, 3, 7);
        whereIs(x, 0, 0, NONE, NONE, NONE);
        whereIs(x, 1400, 0, NONE, NONE, NONE);
        CHECK.said("3 how many more. NONE: none, no such BLOCK, what.");
        for (int odd : FAR) {
            whereIs(x, odd, NONE, NONE, NONE, NONE);
            CHECK.is("what " + odd, x.where(1502, odd), NONE);
        }
        whereIs(x, -1, NONE, NONE, NONE, NONE);
        whereIs(x, 1, NONE, NONE, NONE, NONE);
        CHECK.is("what 4", x.where(1502, 4), NONE);
        CHECK.is("what -1", x.where(1502, -1), NONE);
        whereIs(Check.arena("c"), 0, NONE, NONE, NONE, NONE);
    }

    private static void whereInOutboxes() {
        CHECK.said("by how many more BLOCKS in that OUTBOX it would GO HOME (else NONE)");
        HomeFreed x = Check.arena("st4p2u40b9h30;c;cz2");
        Check.gets(x, 0, 1, 10);
        Check.gets(x, 0, 2, 1);
        x.free(1, 100);
        for (int i = 0; i < 8; i++) {
            x.free(1, i);
            for (int b = 0; b <= i; b++) {
                whereIs(x, b, 4, i - b, 1, 8 - i);
            }
        }
        whereIs(x, 100, 4, 0, 1, 8);
        x.free(2, 9);
        whereIs(x, 9, 4, 0, 2, 8);
        CHECK.is("by one more", x.free(1, 8), 2);
        whereIs(x, 0, 3, 8, NONE, NONE);
        whereIs(x, 8, 3, 0, NONE, NONE);
        whereIs(x, 100, 4, 0, 1, 8);
    }

    private static void series() {
        CHECK.said("SERIES of a THREAD that lives and n: did it GET n again and again: the i-th BLOCK it would GET (i 0 .. 99)");
        HomeFreed x = Check.arena("st2p16u40b9h30;c;cz40");
        String before = Shown.whole(x);
        for (int i = 0; i < 100; i++) {
            CHECK.is("i " + i, x.series(1, 1, i), i / 40 * 100 + i % 40);
        }
        for (int i = 0; i < 16; i++) {
            CHECK.is("i " + i, x.series(0, 2, i), 100 * i);
        }
        CHECK.said("NONE: it would not GET so many, no such THREAD, it does not live, n too large, out of bounds, "
                + "i out of bounds.");
        CHECK.is("sixteen only", x.series(0, 40, 16), NONE);
        CHECK.is("i 100", x.series(0, 1, 100), NONE);
        CHECK.is("i -2", x.series(0, 1, -2), NONE);
        for (int odd : FAR) {
            CHECK.is("thread " + odd, x.series(odd, 1, 0), NONE);
            CHECK.is("n " + odd, x.series(0, odd, 0), NONE);
            CHECK.is("n " + odd, x.series(0, odd, NONE), NONE);
            CHECK.is("i " + odd, x.series(0, 1, odd), NONE);
        }
        CHECK.is("thread 2", x.series(2, 1, NONE), NONE);
        CHECK.is("thread -1", x.series(-1, 1, NONE), NONE);
        CHECK.is("n 0", x.series(0, 0, NONE), NONE);
        CHECK.is("n 41", x.series(0, 41, NONE), NONE);
        CHECK.alike("apart", Shown.whole(x), before);
        CHECK.are("no status", Shown.status(x), 0, 0, 0, 0);
        HomeFreed y = Check.arena("st2p2u16;cz9");
        CHECK.is("too large", y.series(0, 10, NONE), NONE);
        CHECK.is("too large", y.series(0, 10, 0), NONE);
        y.turn(0);
        CHECK.is("it does not live", y.series(0, 1, NONE), NONE);
        CHECK.is("it does not live", y.series(0, 1, 0), NONE);
        CHECK.is("the other does", y.series(1, 9, NONE), 2);
    }

    private static void roomOfSeries() {
        CHECK.said("ROOM: how many it would GET");
        CHECK.is("all that there are", Check.arena("st1p16u40h30;c").series(0, 1, NONE), 640);
        CHECK.is("one each", Check.arena("st1p16u40h1;cz21").series(0, 21, NONE), 16);
        CHECK.is("one", Check.arena("st1p1u4;cz4").series(0, 1, NONE), 1);
        CHECK.said("(ROOM: i NONE; 0, if there is no room)");
        HomeFreed x = Check.arena("st2p2u4b9h30;cz2");
        Check.gets(x, 0, 2, 4);
        CHECK.is("no room", x.series(0, 2, NONE), 0);
        CHECK.is("no room", x.series(1, 2, NONE), 0);
        CHECK.is("so there is no first one", x.series(0, 2, 0), NONE);
        x.free(0, 100);
        CHECK.is("room for one", x.series(0, 2, NONE), 1);
        CHECK.is("that", x.series(0, 2, 0), 100);
        CHECK.is("not for the other", x.series(1, 2, NONE), 0);
        x.turn(0);
        CHECK.is("by adopting", x.series(1, 2, NONE), 1);
    }

    private static void ticksOfSeries() {
        CHECK.said("(TICKS by that, too)");
        // page 0 is of 1 and full, one of its blocks is in 0's outbox; a tick of 0 sends it, which is of no use to 0
        HomeFreed x = Check.arena("st2p3u4b9h2;cz2");
        Check.gets(x, 0, 2, 1);
        x.turn(0);
        x.turn(0);
        x.free(0, 0);
        CHECK.is("page 0 by adopting: 1; then a tick sends 0 to it, which is got behind that; then two pages",
                x.series(0, 2, NONE), 6);
        CHECK.is("first", x.series(0, 2, 0), 1);
        CHECK.is("second", x.series(0, 2, 1), 0);
        CHECK.is("third", x.series(0, 2, 2), 100);
        HomeFreed y = Check.arena("st2p1u4b9h9;cz2");
        Check.gets(y, 0, 2, 1);
        y.turn(0);
        y.turn(0);
        y.free(0, 0);
        CHECK.is("no tick comes", y.series(0, 2, NONE), 1);
    }

    private static void cheapest() {
        CHECK.said("CHEAPEST: the PAGE that is not EMPTY with fewest USED, but some (of several the lowest); "
                + "how many of them are HELD.");
        HomeFreed x = Check.arena("st3p16u4b9h30;c;cz2;cz4");
        CHECK.is("all are empty", x.cheapest(0), NONE);
        CHECK.is("all are empty", x.cheapest(1), NONE);
        x.get(0, 1);
        CHECK.is("one", x.cheapest(0), 0);
        CHECK.is("one", x.cheapest(1), 1);
        x.free(0, 0);
        CHECK.is("not empty, but nothing is used", x.cheapest(0), NONE);
        CHECK.is("not empty, but nothing is used", x.cheapest(1), NONE);
        Check.gets(x, 0, 1, 3);
        Check.gets(x, 1, 1, 2);
        Check.gets(x, 2, 1, 2);
        CHECK.is("two and two: the lowest", x.cheapest(0), 1);
        x.free(0, 101);
        CHECK.is("one of them is held", x.cheapest(1), 1);
        x.free(0, 100);
        CHECK.is("in outboxes: used, though none is held", x.cheapest(0), 1);
        CHECK.is("in outboxes: used, though none is held", x.cheapest(1), 0);
        x.turn(2);
        x.free(0, 200);
        x.send(0);
        CHECK.is("an abandoned one counts", x.cheapest(0), 2);
        CHECK.is("an abandoned one counts", x.cheapest(1), 1);
        CHECK.said("CHEAPEST: the PAGE (0), HELD (1). NONE: there is none, no ARENA, no such what.");
        for (int odd : FAR) {
            CHECK.is("what " + odd, x.cheapest(odd), NONE);
        }
        CHECK.is("what 2", x.cheapest(2), NONE);
        CHECK.is("what -1", x.cheapest(-1), NONE);
        CHECK.is("no arena", new HomeFreed().cheapest(0), NONE);
    }

    private static void shares() {
        CHECK.said("SHARES of c (0 .. 999) by USED: for a THREAD c times that of its PAGES by that of all PAGES, cut (none: 0).");
        HomeFreed x = Check.arena("st4p16u40b9h30;c");
        for (int t = 0; t < 4; t++) {
            CHECK.is("none", x.shares(t, 999), 0);
        }
        x.get(0, 1);
        CHECK.is("all", x.shares(0, 999), 999);
        CHECK.is("nothing", x.shares(1, 999), 0);
        Check.gets(x, 1, 1, 2);
        Check.gets(x, 2, 1, 4);
        CHECK.is("1 of 7", x.shares(0, 999), 142);
        CHECK.is("2 of 7", x.shares(1, 999), 285);
        CHECK.is("4 of 7", x.shares(2, 999), 570);
        CHECK.is("cut", x.shares(2, 1), 0);
        CHECK.is("cut", x.shares(2, 2), 1);
        CHECK.is("c 0", x.shares(2, 0), 0);
        x.turn(2);
        CHECK.is("abandoned ones count among all", x.shares(1, 7), 2);
        CHECK.is("it owns none", x.shares(2, 7), 0);
        Check.gets(x, 1, 1, 200);
        CHECK.is("206 of 207, as it adopted the abandoned one", x.shares(1, 999), 994);
        x.free(1, 0);
        x.send(1);
        x.free(0, 100);
        CHECK.is("an outbox is used: 206 in all", x.shares(1, 206), 206);
        CHECK.said("SHARES. NONE: no such THREAD, out of bounds.");
        for (int odd : FAR) {
            CHECK.is("thread " + odd, x.shares(odd, 1), NONE);
            CHECK.is("c " + odd, x.shares(0, odd), NONE);
        }
        CHECK.is("thread 4", x.shares(4, 1), NONE);
        CHECK.is("thread -1", x.shares(-1, 1), NONE);
        CHECK.is("c -1", x.shares(0, -1), NONE);
        CHECK.is("c 1000", x.shares(0, 1000), NONE);
        CHECK.is("no arena", new HomeFreed().shares(0, 1), NONE);
    }

    private static void fullestAndRichest() {
        CHECK.said("FULLEST: the PAGE with most USED; RICHEST: the THREAD that owns most PAGES (of several the lowest, both).");
        HomeFreed x = Check.arena("st4p16u4b9h30;c;cz2;cz4");
        CHECK.is("nothing is used", x.most(0), 0);
        CHECK.is("nothing is owned", x.most(1), 0);
        x.get(3, 4);
        x.get(2, 2);
        CHECK.is("one each", x.most(0), 0);
        CHECK.is("one each", x.most(1), 2);
        x.get(2, 2);
        x.get(3, 1);
        CHECK.is("two of page 1", x.most(0), 1);
        CHECK.is("two of 3", x.most(1), 3);
        x.get(3, 1);
        CHECK.is("two and two", x.most(0), 1);
        x.get(3, 1);
        CHECK.is("three", x.most(0), 2);
        x.free(1, 200);
        CHECK.is("an outbox is used", x.most(0), 2);
        x.turn(3);
        CHECK.is("abandoned pages are nobody's", x.most(1), 2);
        CHECK.is("but used", x.most(0), 2);
        Check.gets(x, 0, 4, 2);
        CHECK.is("full ones are owned", x.most(1), 0);
        Check.gets(x, 1, 4, 3);
        CHECK.is("three of 1", x.most(1), 1);
        HomeFreed one = Check.arena("st4p1u40b9h30;c");
        one.get(3, 1);
        CHECK.is("the only page", one.most(0), 0);
        CHECK.is("of the last thread", one.most(1), 3);
        CHECK.is("cheapest, too", one.cheapest(0), 0);
        HomeFreed last = Check.arena("st1p16u4b9h30;cz2");
        Check.gets(last, 0, 2, 32);
        for (int p = 0; p < 15; p++) {
            last.free(0, 100 * p);
        }
        CHECK.is("the last page", last.most(0), 15);
    }

    private static void bits() {
        CHECK.said("LIVING: THREADS (bits). ABANDONED, EMPTY, FULL, QUEUED: PAGES (bits).");
        HomeFreed x = Check.arena("st4p16u4b9h30;cz4");
        Check.gets(x, 3, 4, 8);
        Check.gets(x, 0, 4, 8);
        CHECK.are("all pages", new int[] {x.most(2), x.most(3), x.most(4), x.most(5), x.most(6)}, 15, 0, 0, 32639, 32896);
        x.turn(0);
        CHECK.are("0 ended", new int[] {x.most(2), x.most(3), x.most(4), x.most(5), x.most(6)}, 14, 65280, 0, 127, 128);
        x.turn(3);
        CHECK.are("3 ended", new int[] {x.most(2), x.most(3), x.most(4), x.most(5), x.most(6)}, 6, 65535, 0, 0, 0);
        x.turn(1);
        x.turn(2);
        CHECK.is("nobody", x.most(2), 0);
        CHECK.is("one thread", Check.arena("st1;c").most(2), 1);
        CHECK.is("one page", Check.arena("sp1;c").most(4), 1);
    }

    private static void howMany() {
        CHECK.said("HELD: how many. OUT: how many are in OUTBOXES.");
        HomeFreed x = Check.arena("st4p4u40b9h30;c");
        Check.gets(x, 0, 1, 40);
        Check.gets(x, 1, 1, 40);
        CHECK.is("held", x.most(7), 80);
        for (int i = 0; i < 8; i++) {
            x.free(2, i);
            x.free(3, 100 + i);
            x.free(0, 110 + i);
        }
        CHECK.is("held", x.most(7), 56);
        CHECK.is("out", x.most(8), 24);
        CHECK.said("FOREIGN: how many there are in FOREIGN lists.");
        CHECK.is("none yet", x.most(10), 0);
        x.free(2, 8);
        x.free(3, 108);
        CHECK.is("two batches", x.most(10), 18);
        CHECK.is("out", x.most(8), 8);
        CHECK.is("held", x.most(7), 54);
        x.free(0, 30);
        CHECK.is("local ones are in none", x.most(10), 18);
        x.turn(1);
        CHECK.is("of abandoned pages, too", x.most(10), 18);
        x.tick(0);
        CHECK.is("sent", x.most(10), 26);
        x.get(0, 1);
        CHECK.is("local is first", x.most(10), 26);
        x.get(0, 1);
        CHECK.is("ready by that", x.most(10), 17);
        CHECK.said("LOST: how many BLOCKS of PAGES that are not EMPTY are not once in just one of: a list, an OUTBOX, HELD.");
        CHECK.is("none", x.most(11), 0);
        CHECK.is("none", Check.arena("c").most(11), 0);
    }

    private static void idle() {
        CHECK.said("IDLE: how many UNITS of PAGES that are not EMPTY are in no BLOCK that is USED.");
        HomeFreed x = Check.arena("st2p16u40b9h30;cz3;cz40");
        CHECK.is("all are empty", x.most(9), 0);
        x.get(0, 40);
        CHECK.is("a whole page is used", x.most(9), 0);
        x.get(0, 1);
        CHECK.is("as many as the size, not as n", x.most(9), 37);
        Check.gets(x, 0, 3, 12);
        CHECK.is("what is cut is idle", x.most(9), 1);
        x.free(1, 100);
        CHECK.is("an outbox is used", x.most(9), 1);
        x.send(1);
        CHECK.is("foreign is idle", x.most(9), 4);
        x.free(0, 0);
        CHECK.is("a page that is not empty, with nothing used", x.most(9), 44);
        x.turn(0);
        CHECK.is("it is empty; the abandoned one is not", x.most(9), 4);
    }

    private static void refusedMost() {
        CHECK.said("HIDDEN: no ARENA, no such what.");
        HomeFreed x = Check.arena("c");
        HomeFreed none = new HomeFreed();
        for (int odd : FAR) {
            CHECK.is("what " + odd, x.most(odd), HIDDEN);
            CHECK.is("no arena", none.most(odd), HIDDEN);
        }
        CHECK.is("what 12", x.most(12), HIDDEN);
        CHECK.is("what -1", x.most(-1), HIDDEN);
        for (int what = 0; what < 12; what++) {
            CHECK.is("no arena", none.most(what), HIDDEN);
            CHECK.is("told", x.most(what) == HIDDEN ? 1 : 0, 0);
        }
    }
}
