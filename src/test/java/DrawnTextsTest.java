import java.util.ArrayList;
import java.util.Collections;
import java.util.List;
import java.util.Random;
import java.util.regex.Matcher;
import java.util.regex.Pattern;

/** Drawn texts, right and spoilt, their FAULTS compared with those of a second reading of the document. */
public final class DrawnTextsTest {
    private static final Check CHECK = new Check();
    private static final String ODD = "scz;tpubh0123456789 gfxkm():,y\t";

    public static void main(String[] args) {
        CHECK.said("FAULT: the first byte at which no such TEXT can go on");
        int[] right = new int[2];
        HomeFreed x = new HomeFreed();
        for (int seed = 0; seed < 60000 && CHECK.wrongs() == 0; seed++) {
            Random draw = new Random(seed);
            int sort = draw.nextInt(2);
            String text = spoilt(draw, blanked(draw, sort == 0 ? arena(draw) : script(draw)));
            if (text.length() > 240) {
                text = text.substring(0, 240);
            }
            if (seed % 100 == 0) {
                x = new HomeFreed();
            }
            x.end(0);
            Check.feed(x, text);
            int want = sort == 0 ? new Signs(text).faultOfArena() : new Signs(text).faultOfScript();
            CHECK.is("fault(" + sort + ") of '" + text + "'", x.fault(sort), want);
            right[sort] += want == -1 ? 1 : 0;
        }
        CHECK.is("many are right", right[0] > 3000 && right[1] > 3000 ? 1 : 0, 1);
        CHECK.close("DrawnTextsTest");
    }

    private static String arena(Random draw) {
        List<String> clauses = new ArrayList<>();
        int size = 0;
        int many = draw.nextInt(20) == 0 ? draw.nextInt(8) : 1 + draw.nextInt(6);
        for (int i = 0; i < many; i++) {
            size += 1 + draw.nextInt(draw.nextInt(6) == 0 ? 9 : 3) - (draw.nextInt(30) == 0 ? 1 : 0);
            clauses.add(size == 1 && draw.nextBoolean() ? "c" : "cz" + size);
        }
        int ruled = draw.nextInt(20) == 0 ? 2 : draw.nextInt(4) == 0 ? 0 : 1;
        for (int i = 0; i < ruled; i++) {
            clauses.add(draw.nextInt(clauses.size() + 1), rules(draw));
        }
        return String.join(";", clauses);
    }

    private static String rules(Random draw) {
        StringBuilder text = new StringBuilder("s");
        List<Integer> order = new ArrayList<>(List.of(0, 1, 2, 3, 4));
        Collections.shuffle(order, draw);
        int[] most = {4, 16, 40, 9, 30};
        for (int which : order.subList(0, draw.nextInt(6))) {
            int n = 1 + draw.nextInt(most[which] + (draw.nextInt(20) == 0 ? 3 : 0));
            n = which == 2 ? Math.max(n, draw.nextInt(20) == 0 ? 3 : 18) : n;
            text.append("tpubh".charAt(which)).append(n < 10 && draw.nextInt(9) == 0 ? "0" : "").append(n);
        }
        return text.toString();
    }

    private static String script(Random draw) {
        int many = draw.nextInt(5) == 0 ? 20 + draw.nextInt(6) : 1 + draw.nextInt(20);
        List<String> steps = new ArrayList<>();
        int open = 0;
        while (steps.size() < many) {
            int left = many - steps.size();
            if (open > 0 && (left <= open || draw.nextInt(4) == 0)) {
                steps.add(")");
                open--;
            } else if (left > open + 1 && draw.nextInt(3) == 0 && open < 6 + draw.nextInt(2)) {
                steps.add("(");
                open++;
            } else {
                int t = draw.nextInt(10);
                int which = draw.nextInt(5);
                String step = "gfxkm".substring(which, which + 1) + t;
                step += which == 0 ? ":" + (1 + draw.nextInt(40)) : which == 1 ? ":" + draw.nextInt(24) : "";
                steps.add(step);
            }
        }
        return String.join(";", steps);
    }

    private static String blanked(Random draw, String text) {
        StringBuilder all = new StringBuilder();
        boolean loose = draw.nextInt(3) == 0;
        for (int i = 0; i < text.length(); i++) {
            boolean number = i > 0 && Character.isDigit(text.charAt(i)) && Character.isDigit(text.charAt(i - 1));
            all.append(loose && !number && draw.nextInt(4) == 0 ? " " : "").append(text.charAt(i));
        }
        return all.append(loose && draw.nextBoolean() ? " " : "").toString();
    }

    private static String spoilt(Random draw, String text) {
        StringBuilder all = new StringBuilder(text);
        for (int times = draw.nextInt(4) - 1; times > 0; times--) {
            int at = draw.nextInt(all.length() + 1);
            char sign = draw.nextInt(9) == 0 ? (char) (1 + draw.nextInt(255)) : ODD.charAt(draw.nextInt(ODD.length()));
            switch (draw.nextInt(4)) {
                case 0:
                    all.insert(at, sign);
                    break;
                case 1:
                    all.setLength(at);
                    break;
                case 2:
                    if (at < all.length()) {
                        all.deleteCharAt(at);
                    }
                    break;
                default:
                    if (at < all.length()) {
                        all.setCharAt(at, sign);
                    }
                    break;
            }
        }
        return all.toString();
    }

    /** The signs of a TEXT, each run of digits as one, with the places where they stand. */
    private static final class Signs {
        private final List<String> signs = new ArrayList<>();
        private final List<Integer> places = new ArrayList<>();
        private final int length;
        private int at = 0;
        private int fault = -1;

        Signs(String text) {
            length = text.length();
            Matcher m = Pattern.compile("[0-9]+|[^ ]").matcher(text);
            while (m.find()) {
                signs.add(m.group());
                places.add(m.start());
            }
        }

        private String sign() {
            return at < signs.size() ? signs.get(at) : "";
        }

        private void wrong(int more) {
            if (fault == -1) {
                fault = (at < places.size() ? places.get(at) : length) + more;
            }
        }

        private boolean isNumber() {
            return !sign().isEmpty() && Character.isDigit(sign().charAt(0)) && sign().charAt(0) < 128;
        }

        private int number(int least, int most) {
            if (!isNumber()) {
                wrong(0);
                return least;
            }
            if (sign().length() > 2) {
                wrong(2);
                return least;
            }
            int n = Integer.parseInt(sign());
            if (n < least || n > most) {
                wrong(sign().length() - 1);
            }
            at++;
            return n;
        }

        int faultOfArena() {
            int units = 16;
            boolean rules = false;
            List<Integer> sizes = new ArrayList<>();
            do {
                String letter = sign();
                if (letter.equals("s") && !rules) {
                    rules = true;
                    at++;
                    units = items("tpubh", 2, units);
                } else if (letter.equals("c") && sizes.size() < 6) {
                    at++;
                    sizes.add(items("z", 0, 1));
                } else {
                    wrong(0);
                }
            } while (fault == -1 && follows());
            boolean rising = true;
            for (int i = 0; i < sizes.size(); i++) {
                rising &= sizes.get(i) <= units && (i == 0 || sizes.get(i) > sizes.get(i - 1));
            }
            return fault != -1 ? fault : sizes.isEmpty() || !rising ? length : -1;
        }

        /** The number behind the letter that is asked for, or what it is without. */
        private int items(String letters, int asked, int without) {
            int[] least = {1, 1, 4, 1, 1};
            int[] most = {letters.equals("z") ? 40 : 4, 16, 40, 9, 30};
            int answer = without;
            String seen = "";
            while (fault == -1 && !sign().isEmpty() && letters.contains(sign())) {
                if (seen.contains(sign())) {
                    wrong(0);
                    break;
                }
                seen += sign();
                int which = letters.indexOf(sign());
                at++;
                int n = number(least[which], most[which]);
                answer = which == asked ? n : answer;
            }
            return answer;
        }

        /** Whether a ; is there, and is passed; else the text must be at its end. */
        private boolean follows() {
            if (sign().equals(";")) {
                at++;
                return true;
            }
            if (at < signs.size()) {
                wrong(0);
            }
            return false;
        }

        int faultOfScript() {
            int steps = 0;
            int open = 0;
            do {
                if (steps == 24) {
                    at--;
                    wrong(0);
                    break;
                }
                steps++;
                String letter = sign();
                int deeper = letter.equals("(") ? 1 : letter.equals(")") ? -1 : 0;
                if (open + deeper < 0 || open + deeper > 6) {
                    wrong(0);
                } else if (deeper != 0) {
                    open += deeper;
                    at++;
                } else if (!letter.isEmpty() && "gfxkm".contains(letter)) {
                    at++;
                    step(letter);
                } else {
                    wrong(0);
                }
            } while (fault == -1 && follows());
            return fault == -1 && open > 0 ? length : fault;
        }

        private void step(String letter) {
            if (!isNumber()) {
                wrong(0);
                return;
            }
            if (sign().length() > 1) {
                wrong(1);
                return;
            }
            at++;
            if (letter.equals("g") || letter.equals("f")) {
                if (!sign().equals(":")) {
                    wrong(0);
                    return;
                }
                at++;
                number(letter.equals("g") ? 1 : 0, letter.equals("g") ? 40 : 23);
            }
        }
    }
}
