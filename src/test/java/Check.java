import java.io.IOException;
import java.io.UncheckedIOException;
import java.nio.charset.StandardCharsets;
import java.nio.file.Files;
import java.nio.file.Path;

/** What the tests share: counting wrong answers, quoting the document, and feeding texts. */
final class Check {
    private static final Path DOCUMENT = Path.of("../shared/DOC.md");

    private int asked = 0;
    private int wrong = 0;
    private String document = "";
    private String said = "";

    /** The sentence that the answers behind it are about; a quote that does not stand in the document counts as wrong. */
    void said(String sentence) {
        if (document.isEmpty()) {
            document = plain(read());
        }
        said = sentence;
        same("the document says '" + sentence + "'", document.contains(plain(sentence)) ? 1 : 0, 1);
    }

    private static String read() {
        try {
            return Files.readString(DOCUMENT);
        } catch (IOException e) {
            throw new UncheckedIOException(e);
        }
    }

    private static String plain(String text) {
        return text.replaceAll("\\s+", " ");
    }

    void is(String what, long got, long want) {
        same("'" + said + "': " + what, got, want);
    }

    void are(String what, int[] got, int... want) {
        is(what + ", how many", got.length, want.length);
        for (int i = 0; i < Math.min(got.length, want.length); i++) {
            is(what + " " + i, got[i], want[i]);
        }
    }

    /** Two texts of many lines; only the first line that differs is told. */
    void alike(String what, String got, String want) {
        String[] gotLines = got.split("\n");
        String[] wantLines = want.split("\n");
        int i = 0;
        while (i < Math.min(gotLines.length, wantLines.length) && gotLines[i].equals(wantLines[i])) {
            i++;
        }
        String gotLine = i < gotLines.length ? gotLines[i] : "nothing";
        String wantLine = i < wantLines.length ? wantLines[i] : "nothing";
        is(what + ", line " + i + ", '" + gotLine + "' for '" + wantLine + "'", got.equals(want) ? 1 : 0, 1);
    }

    void same(String what, long got, long want) {
        asked++;
        if (got != want) {
            wrong++;
            if (wrong <= 20) {
                System.out.println(what + " answered " + got + ", due is " + want);
            }
        }
    }

    void throwsNoSuch(String what, HomeFreed x, int page, int of) {
        same(what + " throws", Shown.pageOf(x, page, of) == Shown.THROWN ? 1 : 0, 1);
    }

    int wrongs() {
        return wrong;
    }

    void close(String test) {
        System.out.println(test + ": " + asked + " answers, " + wrong + " wrong");
        if (wrong != 0) {
            System.exit(1);
        }
    }

    /** Feeds a text behind what the tape has. */
    static int feed(HomeFreed x, String text) {
        byte[] bytes = text.getBytes(StandardCharsets.ISO_8859_1);
        int answer = x.count(2);
        for (int at = 0; at < bytes.length; at += 20) {
            int[] n = new int[5];
            for (int i = 0; i < 20; i++) {
                int sign = at + i < bytes.length ? bytes[at + i] & 255 : 0;
                n[i / 4] = n[i / 4] << 8 | sign;
            }
            answer = x.feed(n[0], n[1], n[2], n[3], n[4]);
        }
        return answer;
    }

    static HomeFreed arena(String text) {
        HomeFreed x = new HomeFreed();
        tell(x, text, 0);
        return x;
    }

    static int tell(HomeFreed x, String text, int sort) {
        x.end(0);
        feed(x, text);
        return x.text(sort);
    }

    static int faultOf(String text, int sort) {
        HomeFreed x = new HomeFreed();
        feed(x, text);
        return x.fault(sort);
    }

    /** So many GETS of one THREAD, one behind the other. */
    static void gets(HomeFreed x, int thread, int n, int many) {
        for (int i = 0; i < many; i++) {
            x.get(thread, n);
        }
    }
}
