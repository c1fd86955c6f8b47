import java.io.IOException;
import java.nio.file.Files;
import java.nio.file.Path;
import java.util.Map;
import java.util.Set;
import java.util.TreeMap;
import java.util.TreeSet;
import java.util.regex.Matcher;
import java.util.regex.Pattern;

/**
 * What the tests of single sentences have in common. Each test names its promise (0 for the Terms) and the words of
 * the sentence that it holds, which must stand in that promise; it has objects of its own, none with more than 512
 * calls.
 */
class Sentences {
    static final int TERMS = 0;
    static final int LEAST = Integer.MIN_VALUE;
    static final int GREATEST = Integer.MAX_VALUE;

    /** A run of calls on an object. */
    interface Run {
        void on(PoolHouse x);
    }

    /** A call that is asked for its answer. */
    interface Call {
        long of(PoolHouse x);
    }

    private static final Map<Integer, String> TEXTS = new TreeMap<>();
    private static final Set<String> REFUSED = new TreeSet<>();
    private static String sentence = "";
    private static int tests;
    private static int answers;
    private static int wrong;

    Sentences() {
    }

    // ---- the document ----

    static void readDocument() throws IOException {
        String text = Files.readString(Path.of("../shared/DOC.md")).replaceAll("\\s+", " ");
        Matcher heads = Pattern.compile("## (Promise (\\d+): |Terms )").matcher(text);
        while (heads.find()) {
            int end = text.indexOf("## ", heads.end());
            int promise = heads.group(2) == null ? TERMS : Integer.parseInt(heads.group(2));
            TEXTS.put(promise, text.substring(heads.end(), end < 0 ? text.length() : end));
        }
    }

    /** Each refusal that a promise tells must have been met by a test of that promise. */
    static void lookForRefusals() {
        for (Map.Entry<Integer, String> e : TEXTS.entrySet()) {
            Matcher told = Pattern.compile("(^|[ (:])(-[1-6])( |,|;|\\)|\\.|$)").matcher(e.getValue());
            while (e.getKey() != TERMS && told.find()) {
                String refusal = e.getKey() + " " + told.group(2);
                // These two tell of a STEP and of an answer, not of a refusal.
                if (!refusal.equals("3 -1") && !refusal.equals("52 -2") && !REFUSED.contains(refusal)) {
                    wrong++;
                    System.out.println("promise " + e.getKey() + ": no test is refused with " + told.group(2));
                }
            }
        }
    }

    static int end(String name) {
        System.out.println(name + ": " + tests + " sentences, " + answers + " answers, " + wrong + " not as due");
        return wrong == 0 ? 0 : 1;
    }

    // ---- tests ----

    private static void begin(int promise, String words) {
        tests++;
        sentence = (promise == TERMS ? "Terms" : "promise " + promise) + ", \"" + words + "\"";
        String text = TEXTS.get(promise);
        if (text == null || !text.contains(words)) {
            wrong++;
            System.out.println(sentence + ": there are no such words");
        }
    }

    /** A sentence that is held by answers on a new object with four disks. */
    static void holds(int promise, String words, Run test) {
        begin(promise, words);
        test.on(new PoolHouse(4));
    }

    /** A sentence that refuses calls: each answers so, and leaves all as it is without the call. */
    static void refused(int promise, String words, int answer, Run before, Call... calls) {
        refusedBut(promise, words, answer, before, x -> { }, calls);
    }

    /** Likewise, but for what else each of these calls does. */
    static void refusedBut(int promise, String words, int answer, Run before, Run but, Call... calls) {
        begin(promise, words);
        REFUSED.add(promise + " " + answer);
        for (int i = 0; i < calls.length; i++) {
            refuses(answer, before, but, calls[i], i);
        }
    }

    /** Calls to which several refusals fit: the first of these is answered. */
    static void first(int promise, int answer, Run before, Call... calls) {
        begin(TERMS, "REFUSALS change nothing and answer, the first that fits");
        sentence = sentence + " (promise " + promise + ")";
        for (int i = 0; i < calls.length; i++) {
            refuses(answer, before, x -> { }, calls[i], i);
        }
    }

    private static void refuses(int answer, Run before, Run but, Call call, int i) {
        PoolHouse asked = new PoolHouse(4);
        PoolHouse twin = new PoolHouse(4);
        before.on(asked);
        before.on(twin);
        due("call " + i, call.of(asked), answer);
        but.on(twin);
        String got = shown(asked);
        String want = shown(twin);
        answers++;
        if (!got.equals(want)) {
            wrong++;
            System.out.println(sentence + ": call " + i + " changed something\n  " + got + "\n  " + want);
        }
    }

    static void due(String what, long got, long want) {
        answers++;
        if (got != want) {
            wrong++;
            System.out.println(sentence + ": " + what + " answered " + got + ", due is " + want);
        }
    }

    // ---- all that can be seen of an object with few NODES ----

    private static String shown(PoolHouse x) {
        StringBuilder s = new StringBuilder();
        put(s, x.as(0), x.step(0), x.step(-1), x.end(0), x.line(), x.out(0), x.out(1));
        for (int i = 1; i <= 2; i++) {
            put(s, x.handle(i, 0), x.handle(i, 1), x.locked(i, 0), x.disk(i));
        }
        look(x, s);
        put(s, x.crash(0));
        look(x, s);
        put(s, x.snapshot(1), x.clone(1), x.oddities());
        return s.toString();
    }

    private static void put(StringBuilder s, long... all) {
        for (long v : all) {
            s.append(v).append(' ');
        }
    }

    private static void look(PoolHouse x, StringBuilder s) {
        put(s, x.held(0, false));
        for (int t = -2; t <= 2; t++) {
            if (x.told(t, 3) > 0) {
                put(s, t, x.told(t, 0), x.told(t, 1), x.told(t, 2), x.told(t, 3));
                put(s, x.held(t, false), x.held(t, true), x.usage(t, 0), x.usage(t, 1));
            }
            for (int n = 1; t > 0 && x.told(t, 3) > 0 && n <= 5; n++) {
                lookAt(x, t, n, s);
            }
        }
    }

    private static void lookAt(PoolHouse x, int t, int n, StringBuilder s) {
        int kind = x.about(t, n, 0);
        put(s, n, kind);
        if (kind < 0) {
            return;
        }
        put(s, x.about(t, n, 1), x.about(t, n, 2), x.about(t, n, 5), x.about(t, n, 6), x.about(t, n, 7));
        if (kind == 1) {
            put(s, x.about(t, n, 3), x.read(t, n, 59));
        } else if (kind == 2) {
            put(s, x.entry(t, n, 0), x.entry(t, n, 1), x.entry(t, n, 2), x.entry(t, n, 3));
        } else {
            put(s, x.linked(t, n, -1), x.linked(t, n, 0), x.linked(t, n, 1));
        }
    }

    // ---- objects to begin with ----

    /** As it is made. */
    static void bare(PoolHouse x) {
    }

    /**
     * FILE 2 (NAME 10) with 61 bytes in two BLOCKS, DIRECTORY 3 (20) and in it FILE 4 (30) with none, LINK 5 (40)
     * to 20 from the ROOT; SNAPSHOT 1 is the same.
     */
    static void house(PoolHouse x) {
        x.make(1, 1, 10, 1);
        x.write(1, 2, 59, 0x0102, 2);
        x.make(1, 1, 20, 2);
        x.make(1, 3, 30, 1);
        x.step(20);
        x.makeLink(1, 1, 40, true);
        x.snapshot(1);
    }

    /** The house, asked for by a USER who owns nothing. */
    static void guest(PoolHouse x) {
        house(x);
        x.as(1);
    }

    /** So many FILES more in a DIRECTORY, with NAMES from 101 on. */
    static void addFiles(PoolHouse x, int dir, int count) {
        for (int i = 0; i < count; i++) {
            x.make(1, dir, 101 + i, 1);
        }
    }

    /** The house with 24 ENTRIES in the ROOT. */
    static void manyEntries(PoolHouse x) {
        house(x);
        addFiles(x, 1, 21);
    }

    /** The house with 36 NODES: 24 ENTRIES in the ROOT, 11 in DIRECTORY 3. */
    static void manyNodes(PoolHouse x) {
        manyEntries(x);
        addFiles(x, 3, 10);
    }

    /**
     * 400 BLOCKS: DATASETS 1 to 4 with FILES 2, 3, 4 (NAMES 10, 11, 12) of 36, 36 and 28 BLOCKS, from the first PIECE
     * on. What DATASET 1 has is SNAPSHOT 2, too; what the others have is theirs alone; SNAPSHOT 1 has empty FILES.
     */
    static void full(PoolHouse x) {
        for (int i = 0; i < 3; i++) {
            x.make(1, 1, 10 + i, 1);
        }
        x.snapshot(1);
        for (int i = 0; i < 50; i++) {
            x.write(1, 2 + i / 18, i % 18 * 120 + 59, 0x0102, 2);
        }
        x.snapshot(1);
        x.send(1, 2);
        for (int i = 2; i <= 4; i++) {
            x.clone(1);
            x.receive(i);
        }
    }

    // ---- PATHS and SCRIPTS ----

    static void steps(PoolHouse x, int... all) {
        x.step(-1);
        for (int s : all) {
            x.step(s);
        }
    }

    static int walked(PoolHouse x, int dir, boolean follow, int... all) {
        steps(x, all);
        return x.walk(1, dir, follow);
    }

    static int linkTo(PoolHouse x, int dir, int name, boolean fromRoot, int... all) {
        steps(x, all);
        return x.makeLink(1, dir, name, fromRoot);
    }

    static void feed(PoolHouse x, String text) {
        int had = x.end(0);
        due("the TAPE's length", had, 0);
        int[] fours = new int[(text.length() + 19) / 20 * 5];
        for (int i = 0; i < text.length(); i++) {
            fours[i / 4] |= (text.charAt(i) & 255) << 24 - i % 4 * 8;
        }
        for (int i = 0; i < fours.length; i += 5) {
            x.feed(fours[i], fours[i + 1], fours[i + 2], fours[i + 3], fours[i + 4]);
        }
        x.end(text.length());
    }

    /** A SCRIPT that is run: what run() and line() answer, and what stands in OUT. */
    static void script(PoolHouse x, String text, int answer, int line, String out) {
        feed(x, text);
        String shown = text.replace('\n', '|');
        due("run() of " + shown, x.run(), answer);
        due("line() of " + shown, x.line(), line);
        StringBuilder got = new StringBuilder();
        for (int i = 0; i <= out.length() && x.out(i) != -2; i++) {
            got.append((char) x.out(i));
        }
        answers++;
        if (!got.toString().equals(out)) {
            wrong++;
            System.out.println(sentence + ": OUT of " + shown + " is " + got.toString().replace('\n', '|')
                + ", due is " + out.replace('\n', '|'));
        }
    }

    /** A SCRIPT whose line 0 is wrong at its word k. */
    static void wrongWord(PoolHouse x, String text, int k) {
        script(x, text, -10, k, "");
    }

    /** A SCRIPT of one line that is done. */
    static void lineDone(PoolHouse x, String text, long answer) {
        script(x, text, 1, -2, answer + "\n");
    }
}
