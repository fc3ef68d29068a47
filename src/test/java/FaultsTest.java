/** The bounds of ARENAS and SCRIPTS and every place that "FAULT" names (Terms, ==== 1; promises 4 and 5). */
public final class FaultsTest {
    private static final String[] RULES = {"t", "p", "u", "b", "h"};
    private static final int[] LEAST = {1, 1, 4, 1, 1};
    private static final int[] MOST = {4, 16, 40, 9, 30};
    private static final int[] USUAL = {2, 6, 16, 3, 8};
    private static final String STEPS_24 = "x0" + ";x0".repeat(23);
    private static final Check CHECK = new Check();

    private static void arena(String text, int want) {
        fault(text, 0, want);
    }

    private static void script(String text, int want) {
        fault(text, 1, want);
    }

    private static void fault(String text, int sort, int want) {
        HomeFreed x = new HomeFreed();
        Check.feed(x, text);
        CHECK.is("fault(" + sort + ") of '" + text + "'", x.fault(sort), want);
        int told = x.text(sort);
        CHECK.is("text(" + sort + ") of '" + text + "' is refused", told == -1 ? 1 : 0, want == -1 ? 0 : 1);
        CHECK.is("tape behind '" + text + "'", x.count(2), want == -1 ? 0 : text.length());
    }

    public static void main(String[] args) {
        clausesOfArenas();
        itemsOfArenas();
        numbersOfArenas();
        sizes();
        arenasThatEndEarly();
        stepsOfScripts();
        numbersOfScripts();
        manySteps();
        scopes();
        blanks();
        longestTexts();
        otherSigns();
        CHECK.said("The FAULT of the TAPE as an ARENA (0), a SCRIPT (1). NONE: none. -2: no such sort.");
        for (int sort : new int[] {Integer.MIN_VALUE, -2, -1, 2, 3, Integer.MAX_VALUE}) {
            CHECK.is("fault(" + sort + ")", Check.faultOf("c", sort), -2);
        }
        CHECK.close("FaultsTest");
    }

    private static void clausesOfArenas() {
        CHECK.said("CLAUSES with ; between");
        arena("s;c", -1);
        arena(";c", 0);
        arena("c;;c", 2);
        arena("c c", 2);
        arena("cc", 1);
        arena("sc", 1);
        arena("cs", 1);
        arena("c,", 1);
        CHECK.said("s (its RULES; one at most)");
        arena("c", -1);
        arena("s;c", -1);
        arena("s;s", 2);
        arena("s;c;s", 4);
        arena("st1;c;sp1", 6);
        CHECK.said("c (a CLASS; 1 .. 6)");
        arena("s", 1);
        arena("c;cz2;cz3;cz4;cz5;cz6", -1);
        CHECK.said("in any order");
        arena("c;s", -1);
        arena("c;cz2;s;cz3", -1);
        arena("c;cz2;cz3;cz4;cz5;cz6;s", -1);
        arena("s;c;cz2;cz3;cz4;cz5;cz6", -1);
        CHECK.said("a second s, a seventh c");
        arena("c;cz2;cz3;cz4;cz5;cz6;c", 22);
        arena("c;cz2;cz3;cz4;cz5;cz6;cz7", 22);
        arena("c;c;c;c;c;c;c", 12);
        arena("c;cz2;cz3;cz4;cz5;cz6;s;c", 24);
        arena("c;cz2;cz3;cz4;cz5;cz6;s;s", 24);
        arena("s;s;c;c;c;c;c;c;c", 2);
        arena("c;c;c;c;c;c;c;s;s", 12);
    }

    private static void itemsOfArenas() {
        CHECK.said("then ITEMS, none or more");
        arena("st4p16u40b9h30;cz40", -1);
        arena("st1p1u4b1h1;cz4", -1);
        arena("sh1b1u4p1t1;c", -1);
        arena("sz1;c", 1);
        arena("ct1", 1);
        arena("sx1;c", 1);
        arena("s1;c", 1);
        arena("c1", 1);
        CHECK.said("each once at most in a CLAUSE");
        for (String letter : RULES) {
            arena("s" + letter + "4" + letter + "4;c", 3);
        }
        arena("cz1z1", 3);
        arena("cz1;cz2", -1);
        CHECK.said("a letter that was there");
        arena("st1t1;c", 3);
        arena("st1t", 3);
        arena("st1p1u8b1h1t", 11);
        arena("st1p1u8b1h1h1;c", 11);
        arena("cz1 z", 4);
        arena("stt", 2);
        CHECK.said("(1 .. 4; 2 without), p PAGES (1 .. 16; 6), u UNITS of a PAGE (4 .. 40; 16), b BATCH (1 .. 9; 3), "
                + "h BEAT (1 .. 30; 8)");
        for (int told = -1; told < 5; told++) {
            HomeFreed x = Check.arena(told < 0 ? "s;c" : "s" + RULES[told] + MOST[told] + ";c");
            for (int what = 0; what < 5; what++) {
                CHECK.is("rule " + what, x.rule(what), what == told ? MOST[what] : USUAL[what]);
            }
        }
        CHECK.said("of c: z SIZE (1 .. 40; 1;");
        CHECK.is("without", Check.arena("c;cz2").size(0), 1);
    }

    private static void numbersOfArenas() {
        CHECK.said("a number (one or two digits)");
        arena("st01;cz01", -1);
        arena("sp016;c", 4);
        arena("cz001", 4);
        CHECK.said("a number out of bounds is wrong at its last digit");
        for (int what = 0; what < 5; what++) {
            bounds("s" + RULES[what], LEAST[what], MOST[what], ";c");
            bounds("c;s" + RULES[what], LEAST[what], MOST[what], "");
        }
        bounds("su40;cz", 1, 40, "");
        arena("st99", 3);
        arena("st0", 2);
        CHECK.said("a third digit itself, whatever stands ahead of it");
        for (String letter : RULES) {
            arena("s" + letter + "000;c", 4);
            arena("s" + letter + "123;c", 4);
            arena("s" + letter + "999;c", 4);
            arena("s" + letter + "9999;c", 4);
        }
        arena("su40;cz999", 9);
        arena("su40;cz400", 9);
        arena("su40;cz000", 9);
    }

    /** All numbers of two digits at most, with a nought ahead and without. */
    private static void bounds(String ahead, int least, int most, String behind) {
        for (int n = 0; n <= 99; n++) {
            String plain = Integer.toString(n);
            boolean in = n >= least && n <= most;
            arena(ahead + plain + behind, in ? -1 : ahead.length() + plain.length() - 1);
            if (n < 10) {
                arena(ahead + "0" + plain + behind, in ? -1 : ahead.length() + 1);
            }
        }
    }

    private static void sizes() {
        CHECK.said("UNITS at most, more than that of the CLASS told ahead of it");
        arena("cz16", -1);
        arena("cz17;su17", -1);
        arena("su4;cz4", -1);
        arena("su4;cz3;cz4", -1);
        arena("cz1;cz2", -1);
        CHECK.said("with SIZES that do not rise or are more than UNITS");
        arena("cz17", 4);
        arena("su15;cz16", 9);
        arena("cz16;su15", 9);
        arena("su4;cz5", 7);
        arena("su40;cz40;cz40", 14);
        arena("cz2;c", 5);
        arena("c;c", 3);
        arena("cz2;cz2 ", 8);
        arena("cz3;cz5;cz4", 11);
        arena("cz5;cz3;s", 9);
        arena("c;c;c;c;c;c", 11);
        arena("cz17;cz20;su20", -1);
        arena("cz20;cz17;x", 10);
    }

    private static void arenasThatEndEarly() {
        CHECK.said("the length, if it ends too early, without a CLASS");
        arena("", 0);
        arena("   ", 3);
        arena("s", 1);
        arena("s ", 2);
        arena("st", 2);
        arena("st ", 3);
        arena("st2", 3);
        arena("st2;", 4);
        arena("c;", 2);
        arena("c; ", 3);
        arena("cz", 2);
        arena("cz ", 3);
        arena("c;c;c;c;c;c;", 12);
        arena("c;cz2;cz3;cz4;cz5;cz6;s;", 24);
    }

    private static void stepsOfScripts() {
        CHECK.said("g, a digit, : , a number (1 .. 40)");
        for (int t = 0; t <= 9; t++) {
            script("g" + t + ":1", -1);
            script("f" + t + ":0", -1);
            script("x" + t, -1);
            script("k" + t, -1);
            script("m" + t, -1);
        }
        script("g", 1);
        script("g0", 2);
        script("g0:", 3);
        script("g0: ", 4);
        script("g:1", 1);
        script("ga:1", 1);
        script("g12:1", 2);
        script("g1 2:1", 3);
        script("g0;1", 2);
        script("g01", 2);
        script("g0::1", 3);
        CHECK.said("f, a digit, : , a number (0 .. 23)");
        script("f", 1);
        script("f0", 2);
        script("f0:", 3);
        script("f:0", 1);
        script("f00:0", 2);
        CHECK.said("x and a digit");
        script("x", 1);
        script("x00", 2);
        script("x0:1", 2);
        CHECK.said("k and a digit");
        script("k", 1);
        script("k;", 1);
        script("k10", 2);
        CHECK.said("m and a digit");
        script("m", 1);
        script("m ", 2);
        script("m9:", 2);
        CHECK.said("STEPS with ; between");
        script("x0 x1", 3);
        script("x0x1", 2);
        script("k0;;", 3);
        script(";x0", 0);
        CHECK.said("(What a STEP tells that can't be is no FAULT.)");
        script("f9:23;g9:40;x9;k9;m9;f0:0", -1);
    }

    private static void numbersOfScripts() {
        CHECK.said("a number out of bounds is wrong at its last digit");
        for (int n = 0; n <= 99; n++) {
            int last = n < 10 ? 3 : 4;
            script("g0:" + n, n >= 1 && n <= 40 ? -1 : last);
            script("f0:" + n + ";x0", n <= 23 ? -1 : last);
            if (n < 10) {
                script("g0:0" + n, n >= 1 ? -1 : 4);
                script("f0:0" + n, -1);
            }
        }
        CHECK.said("a third digit itself, whatever stands ahead of it");
        script("g0:100", 5);
        script("g0:001", 5);
        script("g0:999", 5);
        script("f0:000", 5);
        script("f0:230", 5);
        script("f0:990;y", 5);
    }

    private static void manySteps() {
        CHECK.said("SCRIPTS (4 at most) are TEXTS: STEPS with ; between, 1 to 24");
        script("", 0);
        script("  ", 2);
        script("x0", -1);
        script(STEPS_24.substring(3), -1);
        script(STEPS_24, -1);
        script(STEPS_24 + "  ", -1);
        CHECK.said("the length, if it ends too early");
        script("k0;", 3);
        script("k0; ", 4);
        script(STEPS_24.substring(3) + ";", 69);
        CHECK.said("the ; ahead of a 25th STEP");
        script(STEPS_24 + ";x0", 71);
        script(STEPS_24 + ";", 71);
        script(STEPS_24 + ";;", 71);
        script(STEPS_24 + "  ;  x0", 73);
        script(STEPS_24 + "x", 71);
        script(STEPS_24.substring(3) + ";g0:99;x0", 73);
    }

    private static void scopes() {
        CHECK.said("each ) has its ( ahead, each ( its ) behind");
        script("(;)", -1);
        script("(;);(;)", -1);
        script("(;(;);(;);)", -1);
        script("(0;)", 1);
        script("()", 1);
        CHECK.said("six within one another at most");
        script("(;(;(;(;(;(;);););););)", -1);
        script("(;(;(;(;(;(;);(;);););););)", -1);
        script("(;);".repeat(11) + "(;)", -1);
        CHECK.said("a seventh ( within others");
        script("(;(;(;(;(;(;(", 12);
        script("(;(;(;(;(;(;(;);););););););)", 12);
        script("(;(;(;(;(;(;);(;(", 16);
        CHECK.said("a ) without its ( at it");
        script(")", 0);
        script("x0;)", 3);
        script("(;);)", 4);
        script("(;(;););)", 8);
        CHECK.said("with a SCOPE that has not ended");
        script("(", 1);
        script("( ", 2);
        script("(;g0:1", 6);
        script("(;(;)", 5);
        script("(;(;(;(;(;(;);););););", 22);
        script(STEPS_24.substring(3) + ";(", 70);
        script("(" + ";x0".repeat(23), 70);
        script("(" + ";x0".repeat(23) + ";)", 70);
        script("(" + ";x0".repeat(22) + ";)", -1);
    }

    private static void blanks() {
        CHECK.said("Blanks (32) may stand between all signs of both, not within numbers.");
        String rules = "st2p03u40b9h30;cz2;cz14";
        for (int at = 0; at <= rules.length(); at++) {
            String apart = rules.substring(0, at) + "  " + rules.substring(at);
            boolean within = at > 0 && at < rules.length() && isDigit(rules.charAt(at)) && isDigit(rules.charAt(at - 1));
            // u4 is in bounds, as are z1 and so on; the next digit is then wrong itself, but for p0 and h3's
            int want = !within ? -1 : rules.startsWith("p03", at - 2) ? at - 1 : at + 2;
            arena(apart, want);
        }
        String steps = "g0:12;f1:23;x0;k0;m1;(;)";
        for (int at = 0; at <= steps.length(); at++) {
            String apart = steps.substring(0, at) + "   " + steps.substring(at);
            boolean within = at > 0 && at < steps.length() && isDigit(steps.charAt(at)) && isDigit(steps.charAt(at - 1));
            script(apart, within ? at + 3 : -1);
        }
        arena("  s  t 2  p 3 ; c z 2 ; c z 04  ", -1);
        script("  g 1 : 2 ; f 0 : 0 ; ( ; x 0 ; k 1 ; m 1 ; )  ", -1);
        arena("cz1 2", 4);
        arena("su3 9;c", 2);
        arena("st0 1;c", 2);
        script("g0:4 1", 5);
        script("g0:0 1", 3);
        arena("c\t", 1);
        arena("c\n", 1);
        arena("c\u00a0", 1);
        script("x0\t;x0", 2);
    }

    private static boolean isDigit(char sign) {
        return sign >= '0' && sign <= '9';
    }

    private static void longestTexts() {
        CHECK.said("NONE: more than 240.");
        arena(" ".repeat(239) + "c", -1);
        arena("c" + " ".repeat(239), -1);
        arena(" ".repeat(240), 240);
        arena(" ".repeat(239) + "s", 240);
        arena(" ".repeat(239) + "x", 239);
        script(" ".repeat(238) + "x0", -1);
        script(" ".repeat(239) + "x", 240);
        arena("s;" + "c;".repeat(119), 14);
        script("(;".repeat(120), 12);
        script("g0:1;".repeat(48), 119);
    }

    /** Each sign wherever a TEXT could go on otherwise, those of 128 and more too. */
    private static void otherSigns() {
        CHECK.said("the first byte at which no such TEXT can go on");
        for (int sign = 1; sign < 256; sign++) {
            String s = String.valueOf((char) sign);
            boolean digit = isDigit((char) sign);
            boolean blank = sign == 32;
            arena(s, blank || sign == 's' || sign == 'c' ? 1 - (sign == 'c' ? 2 : 0) : 0);
            arena("c" + s, blank ? -1 : sign == ';' || sign == 'z' ? 2 : 1);
            arena("s" + s, blank || sign == ';' || "tpubh".indexOf(sign) >= 0 ? 2 : 1);
            arena("cz" + s, digit && sign != '0' ? -1 : blank ? 3 : 2);
            arena("cz1" + s, digit && sign <= '6' || blank ? -1 : digit || sign == ';' ? 4 : 3);
            arena("c;" + s, blank || sign == 'c' || sign == 's' ? (sign == 's' ? -1 : 3) : 2);
            boolean led = "gfxkm(".indexOf(sign) >= 0;
            script(s, led || blank ? 1 : 0);
            script("x" + s, digit ? -1 : blank ? 2 : 1);
            script("x0" + s, blank ? -1 : sign == ';' ? 3 : 2);
            script("g0" + s, blank || sign == ':' ? 3 : 2);
            script("g0:" + s, digit && sign != '0' ? -1 : blank ? 4 : 3);
            script("f0:" + s, digit ? -1 : blank ? 4 : 3);
            script("f0:2" + s, digit && sign <= '3' || blank ? -1 : sign == ';' ? 5 : 4);
            script("(;" + s, led || blank || sign == ')' ? (sign == ')' ? -1 : 3) : 2);
            script("(" + s, blank || sign == ';' ? 2 : 1);
        }
    }
}
