/** Promises 4 and 5: where a text is wrong. */
public final class FaultsTest {
    private static final Check CHECK = new Check();

    private static void arena(String text, int want) {
        fault(text, 0, want);
    }

    private static void script(String text, int want) {
        fault(text, 1, want);
    }

    private static void fault(String text, int sort, int want) {
        CHECK.same("fault(" + sort + ") of '" + text + "'", Check.faultOf(text, sort), want);
        HomeFreed x = new HomeFreed();
        Check.feed(x, text);
        int told = x.text(sort);
        CHECK.same("text(" + sort + ") of '" + text + "'", told == -1 ? 1 : 0, want == -1 ? 0 : 1);
        CHECK.same("tape behind '" + text + "'", x.count(2), want == -1 ? 0 : text.length());
    }

    public static void main(String[] args) {
        arenasThatAre();
        arenasThatEndEarly();
        arenasThatGoWrong();
        numbers();
        scriptsThatAre();
        scriptsThatGoWrong();
        scopes();
        CHECK.same("no such sort", Check.faultOf("c", 2), -2);
        CHECK.same("no such sort", Check.faultOf("c", -1), -2);
        CHECK.close("FaultsTest");
    }

    private static void arenasThatAre() {
        arena("c", -1);
        arena("s;c", -1);
        arena("c;s", -1);
        arena("c;cz2;s;cz3", -1);
        arena("c;cz2;cz3;cz4;cz5;cz6;s", -1);
        arena("st4p16u40b9h30;cz40", -1);
        arena("st1p1u4b1h1;cz4", -1);
        arena("sh1b1u4p1t1;c", -1);
        arena("cz16", -1);
        arena("cz17;su17", -1);
        arena("  s  t 2  p 3 ; c z 2 ; c z 04  ", -1);
        arena("st01;cz01", -1);
    }

    private static void arenasThatEndEarly() {
        arena("", 0);
        arena("   ", 3);
        arena("s", 1);
        arena("s ", 2);
        arena("st", 2);
        arena("st ", 3);
        arena("c;", 2);
        arena("c; ", 3);
        arena("cz", 2);
        arena("st2", 3);
        arena("cz2;c", 5);
        arena("cz2;cz2 ", 8);
        arena("cz5;cz3;s", 9);
        arena("cz17", 4);
        arena("su15;cz16", 9);
        arena("cz16;su15", 9);
        arena("c;c;c;c;c;c", 11);
        arena("c;c;c;c;c;c;", 12);
        arena("c;cz2;cz3;cz4;cz5;cz6;s;", 24);
    }

    private static void arenasThatGoWrong() {
        arena("x", 0);
        arena(";c", 0);
        arena("c;;c", 2);
        arena("c c", 2);
        arena("cc", 1);
        arena("C", 0);
        arena("s;s", 2);
        arena("s;c;s", 4);
        arena("c;cz2;cz3;cz4;cz5;cz6;c", 22);
        arena("c;cz2;cz3;cz4;cz5;cz6;s;c", 24);
        arena("c;cz2;cz3;cz4;cz5;cz6;s;s", 24);
        arena("sz1;c", 1);
        arena("ct1", 1);
        arena("st1t1;c", 3);
        arena("st1p1u8b1h1t", 11);
        arena("cz1z1", 3);
        arena("cz1 2", 4);
        arena("stt", 2);
        arena("c\t", 1);
        arena("c\u00e9", 1);
        arena("c,", 1);
        arena("(;)", 0);
        arena("g0:1", 0);
    }

    private static void numbers() {
        bounds("st", 1, 4, ";c");
        bounds("sp", 1, 16, ";c");
        bounds("su", 4, 40, ";c");
        bounds("sb", 1, 9, ";c");
        bounds("sh", 1, 30, ";c");
        bounds("su40;cz", 1, 40, "");
        arena("st123;c", 4);
        arena("st999;c", 4);
        arena("st000;c", 4);
        arena("st00;c", 3);
        arena("st0 1;c", 2);
        arena("su3 9;c", 2);
        arena("st99", 3);
    }

    /** All numbers of two digits at most, with a nought ahead and without. */
    private static void bounds(String ahead, int least, int most, String behind) {
        for (int n = 0; n <= 99; n++) {
            String plain = Integer.toString(n);
            boolean in = n >= least && n <= most;
            arena(ahead + plain + behind, in ? -1 : ahead.length() + plain.length() - 1);
            if (n < 10) {
                arena(ahead + "0" + plain + behind, in ? -1 : ahead.length() + 1);
            }
        }
    }

    private static void scriptsThatAre() {
        script("g0:1", -1);
        script("g9:40;f9:23;x9;k9;m9", -1);
        script("f0:0", -1);
        script("g0:01;f0:00", -1);
        script("  g 1 : 2 ; f 0 : 0 ; ( ; x 0 ; k 1 ; m 1 ; )  ", -1);
        script("x0" + ";x0".repeat(23), -1);
        script("x0" + ";x0".repeat(23) + "  ", -1);
    }

    private static void scriptsThatGoWrong() {
        script("", 0);
        script("  ", 2);
        script("g", 1);
        script("g0", 2);
        script("g0:", 3);
        script("g0: ", 4);
        script("g:1", 1);
        script("ga:1", 1);
        script("g12:1", 2);
        script("g1 2:1", 3);
        script("g0;1", 2);
        script("g0:0", 3);
        script("g0:00", 4);
        script("g0:41", 4);
        script("g0:99", 4);
        script("g0:100", 5);
        script("g0:999", 5);
        script("g0:4 1", 5);
        script("f0:24", 4);
        script("f0:99;", 4);
        script("f0:230", 5);
        script("x", 1);
        script("k", 1);
        script("m", 1);
        script("x00", 2);
        script("x0:1", 2);
        script("k0;", 3);
        script("k0;;", 3);
        script("y0", 0);
        script(";x0", 0);
        script("c", 0);
        script("x0 x1", 3);
        script("x0" + ";x0".repeat(24), 71);
        script("x0" + ";x0".repeat(23) + ";", 71);
        script("x0" + ";x0".repeat(23) + "x", 71);
        script("x0" + ";x0".repeat(23) + "  ;  x0", 73);
    }

    private static void scopes() {
        script("(;)", -1);
        script("(;(;(;(;(;(;);););););)", -1);
        script("(;(;(;(;(;(;(", 12);
        script("(;(;(;(;(;(;);(;);););););)", -1);
        script("(;);(;)", -1);
        script(")", 0);
        script("(;);)", 4);
        script("(", 1);
        script("( ", 2);
        script("(;g0:1", 6);
        script("(;(;)", 5);
        script("(0;)", 1);
        script("()", 1);
        script("x0" + ";x0".repeat(22) + ";(", 70);
        script("(" + ";x0".repeat(23), 70);
        script("(" + ";x0".repeat(23) + ";)", 70);
        script("(" + ";x0".repeat(22) + ";)", -1);
    }
}
