import java.util.ArrayList;
import java.util.List;
import java.util.function.ToIntFunction;

/**
 * "What is refused answers as told and changes nothing but STATUS." Each refused call and each question is put to one of
 * two twins; all that can be seen of them, their pasts and their images must be alike behind it.
 */
public final class RefusedTest {
    private static final int NONE = HomeFreed.NONE;
    private static final int HIDDEN = HomeFreed.HIDDEN;
    private static final int[] ODD = {Integer.MIN_VALUE, -1000000, -101, -2, -1, 16, 17, 41, 240, 1600, Integer.MAX_VALUE};
    private static final Check CHECK = new Check();

    /** A call, what it has to answer, and the STATUS that it adds to (NONE: none). */
    private record Call(String name, ToIntFunction<HomeFreed> call, int answer, int status) {
    }

    public static void main(String[] args) {
        CHECK.said("What is refused answers as told and changes nothing but STATUS.");
        List<Call> calls = new ArrayList<>();
        refusedActs(calls);
        refusedTexts(calls);
        refusedQuestions(calls);
        for (Call call : calls) {
            twins(call);
        }
        allAtOnce(calls);
        CHECK.said("(Apart, from as it is now.)");
        for (Call call : questions()) {
            twins(call);
        }
        CHECK.close("RefusedTest");
    }

    /** Thread 3 is dead, pages of all sorts, four SCRIPTS, a TAPE with FAULTS, an IMAGE, some ACTS; no room for 8 UNITS. */
    private static HomeFreed state() {
        HomeFreed x = Check.arena("st4p4u8b3h30;c;cz2;cz8");
        Check.tell(x, "g0:1;f1:0;k0", 1);
        Check.tell(x, "g1:2;x2;x2;g2:2;m1;f0:0", 1);
        Check.tell(x, "(;g0:8;)", 1);
        Check.tell(x, "k0;k0;k0;k0;k0;k0;k0", 1);
        Check.gets(x, 0, 1, 9);
        Check.gets(x, 3, 2, 2);
        x.get(1, 8);
        x.free(1, 3);
        x.free(0, 5);
        x.image();
        x.free(2, 4);
        x.free(2, 201);
        x.turn(3);
        x.free(0, 200);
        x.get(2, 2);
        Check.feed(x, "cz2;cz2");
        return x;
    }

    private static String pastAndImage(HomeFreed x) {
        StringBuilder all = new StringBuilder(Shown.whole(x));
        for (int i = 0; i < 3; i++) {
            all.append("undo ").append(x.undo()).append('\n').append(Shown.heap(x));
        }
        all.append("back ").append(x.back()).append('\n').append(Shown.whole(x));
        return all.toString();
    }

    private static void twins(Call call) {
        HomeFreed x = state();
        HomeFreed y = state();
        CHECK.is(call.name(), call.call().applyAsInt(x), call.answer());
        int[] want = {0, 0, 0, 0};
        if (call.status() != NONE) {
            want[call.status()]++;
        }
        CHECK.are(call.name() + ", status", Shown.status(x), want);
        CHECK.alike(call.name(), pastAndImage(x), pastAndImage(y));
    }

    private static void allAtOnce(List<Call> calls) {
        HomeFreed x = state();
        int[] want = {0, 0, 0, 0};
        for (Call call : calls) {
            CHECK.is(call.name() + " among all", call.call().applyAsInt(x), call.answer());
            if (call.status() != NONE) {
                want[call.status()]++;
            }
        }
        CHECK.are("status of all", Shown.status(x), want);
        CHECK.alike("all", pastAndImage(x), pastAndImage(state()));
    }

    private static void refused(List<Call> calls, String name, int status, ToIntFunction<HomeFreed> call) {
        calls.add(new Call(name, call, NONE, status));
    }

    private static void refusedActs(List<Call> calls) {
        for (int odd : ODD) {
            refused(calls, "get(" + odd + ", 1)", 0, x -> x.get(odd, 1));
            refused(calls, "get(" + odd + ", 99)", 0, x -> x.get(odd, 99));
            refused(calls, "get(0, " + odd + ")", 1, x -> x.get(0, odd));
            refused(calls, "get(3, " + odd + ")", 1, x -> x.get(3, odd));
            refused(calls, "free(" + odd + ", 0)", 0, x -> x.free(odd, 0));
            refused(calls, "free(0, " + odd + ")", 0, x -> x.free(0, odd));
            refused(calls, "free(3, " + odd + ")", 0, x -> x.free(3, odd));
            refused(calls, "tick(" + odd + ")", 0, x -> x.tick(odd));
            refused(calls, "send(" + odd + ")", 0, x -> x.send(odd));
            refused(calls, "turn(" + odd + ")", 0, x -> x.turn(odd));
            refused(calls, "perform(" + odd + ")", 0, x -> x.perform(odd));
        }
        refused(calls, "get(0, 0)", 1, x -> x.get(0, 0));
        refused(calls, "get(0, 9)", 1, x -> x.get(0, 9));
        refused(calls, "get(3, 1)", 2, x -> x.get(3, 1));
        refused(calls, "get(3, 8)", 2, x -> x.get(3, 8));
        refused(calls, "get(1, 8)", 3, x -> x.get(1, 8));
        refused(calls, "get(2, 8)", 3, x -> x.get(2, 8));
        refused(calls, "get(1, 1)", 3, x -> x.get(1, 1));
        refused(calls, "get(4, 1)", 0, x -> x.get(4, 1));
        refused(calls, "free(3, 0)", 2, x -> x.free(3, 0));
        refused(calls, "free(3, 3)", 2, x -> x.free(3, 3));
        refused(calls, "free(0, 3)", 2, x -> x.free(0, 3));
        refused(calls, "free(0, 5)", 2, x -> x.free(0, 5));
        refused(calls, "free(0, 107)", 2, x -> x.free(0, 107));
        refused(calls, "free(2, 201)", 2, x -> x.free(2, 201));
        refused(calls, "free(0, 8)", 0, x -> x.free(0, 8));
        refused(calls, "free(0, 204)", 0, x -> x.free(0, 204));
        refused(calls, "free(0, 400)", 0, x -> x.free(0, 400));
        refused(calls, "free(4, 0)", 0, x -> x.free(4, 0));
        refused(calls, "tick(3)", 2, x -> x.tick(3));
        refused(calls, "send(3)", 2, x -> x.send(3));
        refused(calls, "tick(4)", 0, x -> x.tick(4));
        refused(calls, "send(4)", 0, x -> x.send(4));
        refused(calls, "turn(4)", 0, x -> x.turn(4));
        refused(calls, "perform(4)", 0, x -> x.perform(4));
        for (int odd : new int[] {Integer.MIN_VALUE, -1, 0, 41, Integer.MAX_VALUE}) {
            refused(calls, "years(" + odd + ", 1)", NONE, x -> x.years(odd, 1L));
        }
    }

    private static void refusedTexts(List<Call> calls) {
        for (int odd : ODD) {
            refused(calls, "text(" + odd + ")", NONE, x -> x.text(odd));
            calls.add(new Call("fault(" + odd + ")", x -> x.fault(odd), -2, NONE));
            calls.add(new Call("end(" + odd + ")", x -> x.end(odd) ? 1 : 0, 0, NONE));
            calls.add(new Call("count(" + odd + ")", x -> x.count(odd), HIDDEN, NONE));
            refused(calls, "status(" + odd + ")", NONE, x -> x.status(odd));
        }
        refused(calls, "text(0)", NONE, x -> x.text(0));
        refused(calls, "text(1)", NONE, x -> x.text(1));
        calls.add(new Call("end(8)", x -> x.end(8) ? 1 : 0, 0, NONE));
        refused(calls, "a fifth script", NONE, x -> {
            x.end(0);
            Check.feed(x, "x0");
            int answer = x.text(1);
            x.end(0);
            Check.feed(x, "cz2;cz2");
            return answer;
        });
        refused(calls, "a tape that is too long", NONE, x -> {
            Check.feed(x, "cz2;cz2".repeat(33));
            int answer = x.feed(-1, -1, -1, -1, -1);
            x.end(7);
            return answer;
        });
    }

    private static void refusedQuestions(List<Call> calls) {
        for (int odd : ODD) {
            refused(calls, "rule(" + odd + ")", NONE, x -> x.rule(odd));
            refused(calls, "size(" + odd + ")", NONE, x -> x.size(odd));
            calls.add(new Call("page(" + odd + ", 0)", x -> Shown.pageOf(x, odd, 0), Shown.THROWN, NONE));
            calls.add(new Call("page(0, " + odd + ")", x -> Shown.pageOf(x, 0, odd), Shown.THROWN, NONE));
            refused(calls, "list(" + odd + ", 0, 0)", NONE, x -> x.list(odd, 0, 0));
            refused(calls, "list(0, " + odd + ", 0)", NONE, x -> x.list(0, odd, 0));
            refused(calls, "list(0, 0, " + odd + ")", NONE, x -> x.list(0, 0, odd));
            refused(calls, "thread(" + odd + ", 0)", NONE, x -> x.thread(odd, 0));
            refused(calls, "thread(0, " + odd + ")", NONE, x -> x.thread(0, odd));
            refused(calls, "queue(" + odd + ", 0, 0)", NONE, x -> x.queue(odd, 0, 0));
            refused(calls, "queue(0, " + odd + ", 0)", NONE, x -> x.queue(0, odd, 0));
            refused(calls, "queue(0, 0, " + odd + ")", NONE, x -> x.queue(0, 0, odd));
            refused(calls, "outbox(" + odd + ", 0, 0)", NONE, x -> x.outbox(odd, 0, 0));
            refused(calls, "outbox(1, " + odd + ", 0)", NONE, x -> x.outbox(1, odd, 0));
            refused(calls, "outbox(1, 0, " + odd + ")", NONE, x -> x.outbox(1, 0, odd));
            refused(calls, "held(" + odd + ")", NONE, x -> x.held(odd));
            refused(calls, "log(" + odd + ", 0)", NONE, x -> x.log(odd, 0));
            refused(calls, "log(0, " + odd + ")", NONE, x -> x.log(0, odd));
            calls.add(new Call("step(" + odd + ", 0, 0)", x -> x.step(odd, 0, 0), HIDDEN, NONE));
            calls.add(new Call("step(0, " + odd + ", 0)", x -> x.step(0, odd, 0), HIDDEN, NONE));
            calls.add(new Call("step(0, 0, " + odd + ")", x -> x.step(0, 0, odd), HIDDEN, NONE));
            refused(calls, "waste(" + odd + ")", NONE, x -> x.waste(odd));
            refused(calls, "would(" + odd + ", 1)", NONE, x -> x.would(odd, 1));
            refused(calls, "would(0, " + odd + ")", NONE, x -> x.would(0, odd));
            refused(calls, "where(" + odd + ", 0)", NONE, x -> x.where(odd, 0));
            refused(calls, "where(0, " + odd + ")", NONE, x -> x.where(0, odd));
            refused(calls, "series(" + odd + ", 1, 0)", NONE, x -> x.series(odd, 1, 0));
            refused(calls, "series(0, " + odd + ", 0)", NONE, x -> x.series(0, odd, 0));
            refused(calls, "cheapest(" + odd + ")", NONE, x -> x.cheapest(odd));
            refused(calls, "run(" + odd + ", 0)", NONE, x -> x.run(odd, 0));
            refused(calls, "run(0, " + odd + ")", NONE, x -> x.run(0, odd));
            refused(calls, "ways(" + odd + ", 0, 0)", NONE, x -> x.ways(odd, 0, 0));
            refused(calls, "ways(0, " + odd + ", 0)", NONE, x -> x.ways(0, odd, 0));
            refused(calls, "ways(0, 1, " + odd + ")", NONE, x -> x.ways(0, 1, odd));
            refused(calls, "shares(" + odd + ", 0)", NONE, x -> x.shares(odd, 0));
            calls.add(new Call("most(" + odd + ")", x -> x.most(odd), HIDDEN, NONE));
        }
        refused(calls, "classes(91, 0)", NONE, x -> x.classes(91, 0));
        refused(calls, "classes(-1, 0)", NONE, x -> x.classes(-1, 0));
        refused(calls, "classes(0, 8)", NONE, x -> x.classes(0, 8));
        refused(calls, "classes(0, -2)", NONE, x -> x.classes(0, -2));
        refused(calls, "series(0, 1, 100)", NONE, x -> x.series(0, 1, 100));
        refused(calls, "series(0, 1, -2)", NONE, x -> x.series(0, 1, -2));
        refused(calls, "series(3, 1, 0)", NONE, x -> x.series(3, 1, 0));
        refused(calls, "would(3, 1)", NONE, x -> x.would(3, 1));
        refused(calls, "would(1, 8)", NONE, x -> x.would(1, 8));
        refused(calls, "ways(0, 0, 0)", NONE, x -> x.ways(0, 0, 0));
        refused(calls, "ways(0, 2, 0)", NONE, x -> x.ways(0, 2, 0));
        refused(calls, "ways(3, 0, 0)", NONE, x -> x.ways(3, 0, 0));
        refused(calls, "shares(0, 1000)", NONE, x -> x.shares(0, 1000));
        refused(calls, "shares(0, -1)", NONE, x -> x.shares(0, -1));
    }

    /** What is asked and told changes nothing either. */
    private static List<Call> questions() {
        List<Call> calls = new ArrayList<>();
        calls.add(new Call("waste(3)", x -> x.waste(3), 5, NONE));
        calls.add(new Call("waste(0)", x -> x.waste(0), 3, NONE));
        calls.add(new Call("classes(50, NONE)", x -> x.classes(50, NONE), 3, NONE));
        calls.add(new Call("would(0, 1)", x -> x.would(0, 1), 0, NONE));
        calls.add(new Call("would(1, 2)", x -> x.would(1, 2), NONE, NONE));
        calls.add(new Call("where(3, 3)", x -> x.where(3, 3), 2, NONE));
        calls.add(new Call("series(0, 1, NONE)", x -> x.series(0, 1, NONE), 8, NONE));
        calls.add(new Call("series(2, 2, 0)", x -> x.series(2, 2, 0), 203, NONE));
        calls.add(new Call("cheapest(0)", x -> x.cheapest(0), 1, NONE));
        int[] steps = {3, 0, 1, 7};
        for (int s = 0; s < 4; s++) {
            int script = s;
            calls.add(new Call("run(" + s + ", 0)", x -> x.run(script, 0), steps[s], NONE));
            calls.add(new Call("run(" + s + ", 2)", x -> x.run(script, 2), 8, NONE));
        }
        calls.add(new Call("ways(0, 1, 0)", x -> x.ways(0, 1, 0), 84, NONE));
        calls.add(new Call("ways(1, 0, 1)", x -> x.ways(1, 0, 1), 0, NONE));
        calls.add(new Call("shares(0, 999)", x -> x.shares(0, 999), 666, NONE));
        calls.add(new Call("most(7)", x -> x.most(7), 8, NONE));
        calls.add(new Call("fault(0)", x -> x.fault(0), 7, NONE));
        calls.add(new Call("fault(1)", x -> x.fault(1), 0, NONE));
        return calls;
    }
}
