import java.lang.reflect.InvocationTargetException;
import java.lang.reflect.Method;
import java.lang.reflect.Modifier;
import java.util.ArrayList;
import java.util.Arrays;
import java.util.Comparator;
import java.util.HashMap;
import java.util.List;
import java.util.Map;
import java.util.Random;

/**
 * Runs of drawn calls, each asked of the program and of the Model; the seeds are fixed. No object is asked more than
 * 512 times: what there is at a run's end is asked of more objects, each after the same calls.
 */
public final class ModelTest {
    private static final int MOST_CALLS = 512;
    private static final int MOST_DRAWN = 400;
    private static final List<Method> FACE = new ArrayList<>();
    private static final Map<String, Method> OF_POOL = new HashMap<>();
    private static final Map<String, Method> OF_MODEL = new HashMap<>();
    private static final long[] EDGES = {Integer.MIN_VALUE, Integer.MAX_VALUE, -1, 0, 2160, 400, 1000000, 1000001};

    /** A call, and what the Model answered. */
    private static final class Asked {
        final String name;
        final Object[] given;
        final long due;

        Asked(String name, Object[] given, long due) {
            this.name = name;
            this.given = given;
            this.due = due;
        }

        @Override
        public String toString() {
            return name + Arrays.toString(given) + " = " + due;
        }
    }

    private final Random random;
    private final PoolHouse pool;
    private final Model model;
    private final int disks;
    private final int run;
    private final int theme;
    private int drawnFor = 1;
    private int drawnNode = 1;
    private final List<Asked> calls = new ArrayList<>();
    private final List<Asked> looks = new ArrayList<>();
    private final List<String> scripts = new ArrayList<>();
    private boolean failed;

    private ModelTest(int run) {
        this.run = run;
        random = new Random(run);
        theme = run % 6;
        disks = random.nextInt(10);
        pool = new PoolHouse(disks);
        model = new Model(disks);
    }

    public static void main(String[] args) {
        int runs = args.length > 0 ? Integer.parseInt(args[0]) : 1500;
        for (Method m : PoolHouse.class.getDeclaredMethods()) {
            if (Modifier.isPublic(m.getModifiers())) {
                FACE.add(m);
                OF_POOL.put(m.getName(), m);
            }
        }
        for (Method m : Model.class.getDeclaredMethods()) {
            Method same = OF_POOL.get(m.getName());
            if (same != null && Arrays.equals(same.getParameterTypes(), m.getParameterTypes())) {
                OF_MODEL.put(m.getName(), m);
            }
        }
        FACE.sort(Comparator.comparing(Method::getName));
        int wrong = 0;
        for (int i = 0; i < runs && wrong < 5; i++) {
            ModelTest test = new ModelTest(i);
            test.draw();
            wrong += test.failed ? 1 : 0;
        }
        System.out.println("ModelTest: " + wrong + " of " + runs + " runs differ");
        System.exit(wrong == 0 ? 0 : 1);
    }

    private void draw() {
        if (theme == 5) {
            fill();
        }
        for (int i = 0; theme == 0 && i < 22; i++) {
            ask("make", 1, 1, 10 + i, i < 2 ? 2 : 1);
        }
        for (int i = 0; i < MOST_CALLS && calls.size() < MOST_DRAWN && !failed; i++) {
            if (theme == 4 && i % 8 == 0) {
                script();
            }
            if (theme >= 4 && i % 40 == 39) {
                ferry();
            }
            if (theme == 2 && i % 40 == 20) {
                retreat();
            }
            Method m = drawn();
            ask(m.getName(), numbers(m));
        }
        look();
        askAgain();
    }

    /** A DATASET that has a SNAPSHOT's TREE, or nearly, receives what leads from there to another one. */
    private void ferry() {
        ask("as", 0);
        List<Integer> all = new ArrayList<>(model.now.snapshots.keySet());
        if (all.size() < 2) {
            return;
        }
        int from = all.get(random.nextInt(all.size()));
        int to = all.get(random.nextInt(all.size()));
        Model.T goal = model.now.snapshots.get(to).tree.copy();
        ask("send", from, to);
        int clone = model.datasetsMade + 1;
        if (random.nextInt(3) > 0) {
            ask("destroy", -(all.get(random.nextInt(all.size()))));
        }
        ask("clone", from);
        if (random.nextInt(5) == 0) {
            ask("quota", clone, goal.used().blocks().size() - random.nextInt(2));
        }
        if (random.nextInt(3) == 0) {
            ask("open", clone, 2);
            ask("unlink", clone, 1, 10);
        }
        if (model.now.datasets.containsKey(clone)) {
            likenHandled(clone, goal);
            renewSame(clone);
        }
        ask("receive", clone);
        ask("receive", random.nextInt(3) + 1);
        ask("held", clone, true);
        ask("held", 0, false);
        ask("differs", clone, -to, 0);
        if (random.nextInt(3) > 0) {
            ask("destroy", clone);
        }
    }

    /** A FILE that a HANDLE alone keeps, with the bytes that the NODE has in the TREE to which the STREAM leads. */
    private void likenHandled(int dataset, Model.T goal) {
        int made = (int) ask("make", dataset, 1, 999, 1);
        Model.N like = goal.nodes.get(made);
        if (like == null || like.kind != 1 || like.length < 60) {
            ask("unlink", dataset, 1, 999);
            return;
        }
        ask("open", dataset, made);
        for (int at = 0; at < 120 && at < like.length; at++) {
            if (like.bytes()[at] != 0) {
                ask("write", dataset, made, at, (long) like.bytes()[at], 1);
            }
        }
        ask("unlink", dataset, 1, 999);
    }

    /** BLOCKS of a DATASET become its own, with the bytes that they have. */
    private void renewSame(int dataset) {
        for (int i = 0; i < 4; i++) {
            int node = 2 + random.nextInt(6);
            int at = 60 * random.nextInt(36);
            Model.N file = model.now.datasets.get(dataset).tree.nodes.get(node);
            if (file != null && file.kind == 1 && at < file.length) {
                ask("write", dataset, node, at, (long) file.bytes()[at], 1);
            }
        }
    }

    /** A SNAPSHOT with a FILE that a HANDLE alone keeps is gone back to, with just so much QUOTA, or less. */
    private void retreat() {
        ask("as", 0);
        int opened = (int) ask("open", 1, 2);
        int snapshot = 0;
        if (ask("unlink", 1, 1, 10) > 0) {
            snapshot = (int) ask("snapshot", 1);
        }
        if (opened > 0) {
            ask("close", opened);
        }
        if (snapshot > 0) {
            int blocks = model.now.snapshots.get(snapshot).tree.used().blocks().size();
            ask("quota", 1, blocks);
            ask("back", 1, snapshot);
            ask("quota", 1, 400);
            ask("destroy", -snapshot);
        }
    }

    /** So many BLOCKS, NODES, ENTRIES that what has room is soon decided by one more or less. */
    private void fill() {
        int files = 11 + random.nextInt(3);
        for (int i = 0; i < files; i++) {
            ask("make", 1, 1, 10 + i, 1);
        }
        for (int i = 0; i < 190 + random.nextInt(12); i++) {
            if (i == 100) {
                ask("snapshot", 1);
            }
            ask("write", 1, 2 + i % files, 59 + 120 * (i / files), random.nextLong(), 2 + random.nextInt(7));
        }
        ask("snapshot", 1);
    }

    private Method drawn() {
        for (;;) {
            Method m = FACE.get(random.nextInt(FACE.size()));
            int weight = weight(m.getName());
            if (random.nextInt(20) < weight) {
                return m;
            }
        }
    }

    /** How often a call is drawn, of 20: what fills the pool more often than what empties it. */
    private int weight(String name) {
        switch (name) {
            case "make": case "write":
                return theme == 5 && name.equals("make") ? 4 : 20;
            case "rename": case "unlink":
                return theme == 0 ? 4 : 10;
            case "link": case "open": case "about":
                return 10;
            case "attribute":
                return theme == 2 ? 20 : 4;
            case "lock":
                return theme == 3 ? 20 : 6;
            case "snapshot": case "clone": case "send": case "receive": case "back":
                return theme == 2 ? 12 : theme == 1 ? 1 : 3;
            case "step": case "makeLink": case "walk":
                return theme == 1 ? 16 : 4;
            case "as":
                return theme == 3 || theme == 1 ? 5 : 1;
            case "cut":
                return theme == 5 ? 10 : 5;
            case "crash": case "destroy": case "close": case "commit": case "sync": case "scrub":
            case "lose": case "feed": case "end": case "run": case "out": case "line":
                return 1;
            default:
                return 4;
        }
    }

    private Object[] numbers(Method m) {
        Class<?>[] wanted = m.getParameterTypes();
        String[] kinds = kinds(m.getName());
        Object[] given = new Object[wanted.length];
        for (int i = 0; i < wanted.length; i++) {
            long v = number(kinds[i]);
            given[i] = wanted[i] == boolean.class ? (Object) (v % 2 != 0)
                : wanted[i] == int.class ? (Object) (int) v : (Object) v;
        }
        return given;
    }

    private static String[] kinds(String name) {
        switch (name) {
            case "make": return "T DIR name two".split(" ");
            case "step": return "step".split(" ");
            case "makeLink": return "T DIR name b".split(" ");
            case "walk": return "t DIR b".split(" ");
            case "linked": return "t LINK small".split(" ");
            case "find": return "t DIR name".split(" ");
            case "unlink": return "T DIR name".split(" ");
            case "write": return "T FILE at v eight".split(" ");
            case "read": return "t FILE at".split(" ");
            case "cut": return "T FILE at".split(" ");
            case "link": return "T FILE DIR name".split(" ");
            case "rename": return "T DIR name TO name".split(" ");
            case "about": return "t n small".split(" ");
            case "entry": return "t DIR small".split(" ");
            case "key": return "t n small".split(" ");
            case "own": return "T n user".split(" ");
            case "rights": return "T n rights".split(" ");
            case "attribute": return "T n key v b".split(" ");
            case "attributeOf": return "t n key".split(" ");
            case "as": return "user".split(" ");
            case "usage": return "t user".split(" ");
            case "limit": return "d user blocks".split(" ");
            case "lock": return "h at at three".split(" ");
            case "locked": return "h at".split(" ");
            case "open": return "T FILE".split(" ");
            case "close": return "h".split(" ");
            case "handle": return "h two".split(" ");
            case "snapshot": case "receive": return "d".split(" ");
            case "clone": return "s".split(" ");
            case "back": return "d s".split(" ");
            case "destroy": return "t".split(" ");
            case "hold": return "s b".split(" ");
            case "quota": return "d blocks".split(" ");
            case "held": return "t0 b".split(" ");
            case "told": return "t three".split(" ");
            case "differs": return "t t three".split(" ");
            case "send": return "s s".split(" ");
            case "crash": return "five".split(" ");
            case "spoil": return "disk v blocks".split(" ");
            case "lose": case "disk": return "disk".split(" ");
            case "bring": return "disk b".split(" ");
            case "scrub": return "b".split(" ");
            case "feed": return "v v v v v".split(" ");
            case "end": case "out": return "at".split(" ");
            default: return new String[0];
        }
    }

    private long number(String kind) {
        if (random.nextInt(80) == 0) {
            return EDGES[random.nextInt(EDGES.length)];
        }
        switch (kind) {
            case "t": return drawnFor = random.nextInt(3) > 0 ? dataset() : -snapshot();
            case "T": return drawnFor = random.nextInt(12) > 0 ? dataset() : -snapshot();
            case "t0": return random.nextInt(4) - 1;
            case "d": return dataset();
            case "s": return snapshot();
            case "n": return node(0);
            case "FILE": return node(1);
            case "DIR": return node(2);
            case "TO": return random.nextInt(3) == 0 ? drawnNode : node(2);
            case "LINK": return node(3);
            case "name": return name();
            case "step": return random.nextInt(20) == 0 ? -1 : random.nextInt(4) == 0 ? 0 : name();
            case "two": return theme == 0 && random.nextInt(8) > 0 ? 1 : 1 + random.nextInt(2);
            case "small": return random.nextInt(9) - 1;
            case "at": return at();
            case "v": return random.nextInt(3) == 0 ? random.nextInt(2) : random.nextLong();
            case "eight": return 1 + random.nextInt(8);
            case "user": return random.nextInt(3) > 0 ? 0 : random.nextInt(4);
            case "rights": return random.nextInt(3) > 0 ? 63 : random.nextInt(65) - 1;
            case "key": return 1 + random.nextInt(7);
            case "blocks": return random.nextInt(3) > 0 ? 400 : random.nextInt(60);
            case "h": return 1 + random.nextInt(5);
            case "three": return random.nextInt(3);
            case "five": return random.nextInt(5);
            case "disk": return 1 + random.nextInt(2);
            default: return random.nextInt(2);
        }
    }

    /** A NODE's number, mostly one of the wanted kind that the TREE drawn last has. */
    private int node(int kind) {
        Model.T tree = model.now.tree(drawnFor);
        List<Integer> all = new ArrayList<>();
        for (int n = 1; tree != null && n <= 36; n++) {
            Model.N node = tree.nodes.get(n);
            if (node != null && (kind == 0 || node.kind == kind)) {
                all.add(n);
            }
        }
        if (all.isEmpty() || random.nextInt(12) == 0) {
            return drawnNode = 1 + random.nextInt(8);
        }
        return drawnNode = all.get(random.nextBoolean() ? Math.min(all.size() - 1, random.nextInt(3))
            : random.nextInt(all.size()));
    }

    /** A NAME, often one that the DIRECTORY drawn last has. */
    private int name() {
        Model.T tree = model.now.tree(drawnFor);
        Model.N node = tree == null ? null : tree.nodes.get(drawnNode);
        if (node == null || node.entries.isEmpty() || random.nextBoolean()) {
            return 1 + random.nextInt(theme == 0 ? 300 : random.nextBoolean() ? 6 : 40);
        }
        return new ArrayList<>(node.entries.keySet()).get(random.nextInt(node.entries.size()));
    }

    private int at() {
        switch (random.nextInt(4)) {
            case 0: return random.nextInt(200);
            case 1: return random.nextInt(2170);
            case 2: return 60 * random.nextInt(37);
            default: return 59 + 60 * random.nextInt(36);
        }
    }

    private int dataset() {
        List<Integer> all = new ArrayList<>(model.now.datasets.keySet());
        return random.nextInt(15) == 0 ? random.nextInt(8) : all.get(random.nextInt(all.size()));
    }

    private int snapshot() {
        List<Integer> all = new ArrayList<>(model.now.snapshots.keySet());
        return all.isEmpty() || random.nextInt(15) == 0 ? random.nextInt(8) : all.get(random.nextInt(all.size()));
    }

    private void script() {
        StringBuilder text = new StringBuilder();
        int lines = 1 + random.nextInt(12);
        for (int l = 0; l < lines; l++) {
            Method m = drawn();
            text.append(random.nextInt(30) == 0 ? " " : "").append(m.getName());
            for (Object o : numbers(m)) {
                text.append(random.nextInt(20) == 0 ? "  " : " ").append(word(o, l));
            }
            text.append(random.nextInt(60) == 0 ? " 5" : "").append(random.nextInt(20) == 0 ? " \n\n" : "\n");
        }
        int[] w = new int[5];
        byte[] bytes = new byte[(text.length() + 19) / 20 * 20];
        for (int i = 0; i < text.length(); i++) {
            bytes[i] = (byte) text.charAt(i);
        }
        int before = model.tape.length();
        for (int at = 0; at < bytes.length; at += 20) {
            for (int i = 0; i < 5; i++) {
                w[i] = (bytes[at + 4 * i] & 255) << 24 | (bytes[at + 4 * i + 1] & 255) << 16
                    | (bytes[at + 4 * i + 2] & 255) << 8 | bytes[at + 4 * i + 3] & 255;
            }
            ask("feed", w[0], w[1], w[2], w[3], w[4]);
        }
        ask("end", before + text.length());
        scripts.add(text.toString());
        ask("run");
        ask("line");
        for (int i = 0; i < 4; i++) {
            ask("out", random.nextInt(model.outText.length() + 1));
        }
    }

    private String word(Object o, int lines) {
        switch (random.nextInt(40)) {
            case 0: return "@" + random.nextInt(lines + 1);
            case 1: return "@0";
            case 2: return "/" + name();
            case 3: return "/" + name() + "/" + name();
            case 4: return "/";
            case 5: return random.nextInt(4) > 0 ? "00" + random.nextInt(4)
                : new String[] {"-", "@", "//", "/1/", "@-1", "1x", "1234567890123456789", "/12345678", "-0", "+1"}
                    [random.nextInt(10)];
            default: return o instanceof Boolean ? (Boolean) o ? "1" : "0" : o.toString();
        }
    }

    private long ask(String name, Object... given) {
        Asked asked = new Asked(name, given, answer(OF_MODEL, model, name, given));
        calls.add(asked);
        compare(asked, pool, calls.size() - 1);
        return asked.due;
    }

    /** Asks something that changes nothing, of which there is more than one object may be asked. */
    private long lookAt(String name, Object... given) {
        long due = answer(OF_MODEL, model, name, given);
        looks.add(new Asked(name, given, due));
        return due;
    }

    private void askAgain() {
        int each = MOST_CALLS - calls.size();
        if (each < 1) {
            throw new IllegalStateException("run " + run + " has " + calls.size() + " calls");
        }
        for (int from = 0; from < looks.size() && !failed; from += each) {
            PoolHouse again = new PoolHouse(disks);
            for (int i = 0; i < calls.size() && !failed; i++) {
                compare(calls.get(i), again, i);
            }
            for (int i = from; i < Math.min(looks.size(), from + each) && !failed; i++) {
                compare(looks.get(i), again, calls.size() - 1);
            }
        }
    }

    private void compare(Asked asked, PoolHouse on, int last) {
        long got = answer(OF_POOL, on, asked.name, asked.given);
        if (asked.due == got) {
            return;
        }
        failed = true;
        System.out.println("run " + run + ": " + asked.name + Arrays.toString(asked.given) + " answered " + got
            + ", due is " + asked.due + "; before that:");
        for (Asked a : calls.subList(Math.max(0, last - 30), last + 1)) {
            System.out.println("    " + a);
        }
        for (String text : scripts) {
            System.out.println("    a script of the run: " + text.replace('\n', '|'));
        }
    }

    private static long answer(Map<String, Method> face, Object on, String name, Object[] given) {
        try {
            return ((Number) face.get(name).invoke(on, given)).longValue();
        } catch (InvocationTargetException | IllegalAccessException e) {
            throw new IllegalStateException(name + Arrays.toString(given), e);
        }
    }

    /** Looks at all that there is at the end of a run. */
    private void look() {
        ask("as", 0);
        lookAt("oddities");
        for (int i = 0; i <= model.outText.length(); i++) {
            lookAt("out", i);
        }
        for (int i = 1; i <= 8; i++) {
            lookAt("handle", i, 0);
            lookAt("handle", i, 1);
            lookAt("disk", i);
        }
        List<Integer> trees = new ArrayList<>(model.now.datasets.keySet());
        for (int s : model.now.snapshots.keySet()) {
            trees.add(-s);
        }
        for (int t : trees) {
            for (int i = 0; i < 4; i++) {
                lookAt("told", t, i);
            }
            lookAt("held", t, true);
            lookAt("held", t, false);
            for (int n = 1; n <= 36; n++) {
                lookAtNode(t, n);
            }
        }
    }

    private void lookAtNode(int t, int n) {
        long kind = lookAt("about", t, n, 0);
        for (int what = 1; kind > 0 && what < 8; what++) {
            lookAt("about", t, n, what);
        }
        int length = model.about(t, n, 1);
        for (int k = 0; kind == 2 && k <= length; k++) {
            lookAt("find", t, n, (int) lookAt("entry", t, n, k));
        }
        for (int k = -1; kind == 3 && k <= length; k++) {
            lookAt("linked", t, n, k);
        }
        for (int i = 0; kind == 1 && length > 0 && i < 20; i++) {
            lookAt("read", t, n, random.nextInt(length));
            lookAt("read", t, n, random.nextInt(length) / 60 * 60 + 59);
        }
        for (int k = 0; k < model.about(t, n, 7); k++) {
            lookAt("attributeOf", t, n, (int) lookAt("key", t, n, k));
        }
    }
}
