import java.nio.charset.StandardCharsets;
import java.util.NoSuchElementException;

/** What the tests share: counting wrong answers, and feeding texts. */
final class Check {
    private int asked = 0;
    private int wrong = 0;

    void same(String what, long got, long want) {
        asked++;
        if (got != want) {
            wrong++;
            if (wrong <= 20) {
                System.out.println(what + " answered " + got + ", due is " + want);
            }
        }
    }

    void throwsNoSuch(String what, HomeFreed x, int page, int of) {
        boolean thrown = false;
        try {
            x.page(page, of);
        } catch (NoSuchElementException e) {
            thrown = true;
        }
        same(what + " throws", thrown ? 1 : 0, 1);
    }

    int wrongs() {
        return wrong;
    }

    void close(String test) {
        System.out.println(test + ": " + asked + " answers, " + wrong + " wrong");
        if (wrong != 0) {
            System.exit(1);
        }
    }

    /** Feeds a text behind what the tape has. */
    static int feed(HomeFreed x, String text) {
        byte[] bytes = text.getBytes(StandardCharsets.ISO_8859_1);
        int answer = x.count(2);
        for (int at = 0; at < bytes.length; at += 20) {
            int[] n = new int[5];
            for (int i = 0; i < 20; i++) {
                int sign = at + i < bytes.length ? bytes[at + i] & 255 : 0;
                n[i / 4] = n[i / 4] << 8 | sign;
            }
            answer = x.feed(n[0], n[1], n[2], n[3], n[4]);
        }
        return answer;
    }

    static HomeFreed arena(String text) {
        HomeFreed x = new HomeFreed();
        tell(x, text, 0);
        return x;
    }

    static int tell(HomeFreed x, String text, int sort) {
        x.end(0);
        feed(x, text);
        return x.text(sort);
    }

    static int faultOf(String text, int sort) {
        HomeFreed x = new HomeFreed();
        feed(x, text);
        return x.fault(sort);
    }
}
