import java.lang.reflect.Method;
import java.util.ArrayList;
import java.util.Arrays;
import java.util.HashSet;
import java.util.List;
import java.util.Map;
import java.util.Set;
import java.util.TreeMap;

/**
 * A second PoolHouse, written for plainness alone: it copies all that there is, tries a call on the copy,
 * looks whether what came out has room, and only then takes the copy. Tests compare the program with it.
 */
final class Model {
    static final class Block {
        final byte[] bytes = new byte[60];
    }

    static final class N {
        int kind;
        int length;
        int owner;
        int rights = 61;
        TreeMap<Integer, Integer> entries = new TreeMap<>();
        Block[] pieces = new Block[36];
        TreeMap<Integer, Long> attributes = new TreeMap<>();
        List<Integer> path = new ArrayList<>();
        boolean fromRoot;

        N copy() {
            N n = new N();
            n.kind = kind;
            n.length = length;
            n.owner = owner;
            n.rights = rights;
            n.entries.putAll(entries);
            n.pieces = pieces.clone();
            n.attributes.putAll(attributes);
            n.path.addAll(path);
            n.fromRoot = fromRoot;
            return n;
        }

        int blocks() {
            int k = 0;
            for (Block b : pieces) {
                k += b == null ? 0 : 1;
            }
            return k;
        }

        int size() {
            return kind == 1 ? length : kind == 2 ? entries.size() : path.size();
        }

        byte[] bytes() {
            byte[] all = new byte[2160];
            for (int p = 0; p < 36; p++) {
                if (pieces[p] != null) {
                    System.arraycopy(pieces[p].bytes, 0, all, 60 * p, 60);
                }
            }
            return all;
        }

        boolean same(N o) {
            return kind == o.kind && size() == o.size() && owner == o.owner && rights == o.rights
                && entries.equals(o.entries) && attributes.equals(o.attributes) && path.equals(o.path)
                && fromRoot == o.fromRoot && Arrays.equals(bytes(), o.bytes());
        }
    }

    static final class T {
        TreeMap<Integer, N> nodes = new TreeMap<>();

        T copy() {
            T t = new T();
            for (Map.Entry<Integer, N> e : nodes.entrySet()) {
                t.nodes.put(e.getKey(), e.getValue().copy());
            }
            return t;
        }

        int uses(int n) {
            int k = 0;
            for (N d : nodes.values()) {
                for (int m : d.entries.values()) {
                    k += m == n ? 1 : 0;
                }
            }
            return k;
        }

        int above(int n) {
            for (Map.Entry<Integer, N> e : nodes.entrySet()) {
                if (e.getValue().entries.containsValue(n)) {
                    return e.getKey();
                }
            }
            return 0;
        }

        Set<Block> blocks() {
            Set<Block> all = new HashSet<>();
            for (N n : nodes.values()) {
                for (Block b : n.pieces) {
                    if (b != null) {
                        all.add(b);
                    }
                }
            }
            return all;
        }

        int usage(int user) {
            int k = 0;
            for (N n : nodes.values()) {
                k += n.owner == user ? n.blocks() : 0;
            }
            return k;
        }

        /** This TREE without FILES that no ENTRY means. */
        T used() {
            T t = copy();
            t.nodes.entrySet().removeIf(e -> e.getValue().kind == 1 && uses(e.getKey()) == 0);
            return t;
        }

        List<Integer> differing(T o) {
            List<Integer> all = new ArrayList<>();
            for (int i = 1; i <= 36; i++) {
                N a = nodes.get(i);
                N b = o.nodes.get(i);
                if (a == null ? b != null : b == null || !a.same(b)) {
                    all.add(i);
                }
            }
            return all;
        }
    }

    static final class D {
        int origin;
        int quota = 400;
        int[] limits = {400, 400, 400, 400, 400, 400, 400, 400};
        T tree = new T();

        D copy() {
            D d = new D();
            d.origin = origin;
            d.quota = quota;
            d.limits = limits.clone();
            d.tree = tree.copy();
            return d;
        }
    }

    static final class S {
        int dataset;
        boolean hold;
        T tree;

        S copy() {
            S s = new S();
            s.dataset = dataset;
            s.hold = hold;
            s.tree = tree.copy();
            return s;
        }
    }

    static final class P {
        TreeMap<Integer, D> datasets = new TreeMap<>();
        TreeMap<Integer, S> snapshots = new TreeMap<>();

        P copy() {
            P p = new P();
            for (Map.Entry<Integer, D> e : datasets.entrySet()) {
                p.datasets.put(e.getKey(), e.getValue().copy());
            }
            for (Map.Entry<Integer, S> e : snapshots.entrySet()) {
                p.snapshots.put(e.getKey(), e.getValue().copy());
            }
            return p;
        }

        Set<Block> blocks() {
            Set<Block> all = new HashSet<>();
            for (D d : datasets.values()) {
                all.addAll(d.tree.blocks());
            }
            for (S s : snapshots.values()) {
                all.addAll(s.tree.blocks());
            }
            return all;
        }

        T tree(int t) {
            if (t > 0) {
                return datasets.containsKey(t) ? datasets.get(t).tree : null;
            }
            return t < 0 && snapshots.containsKey(-t) ? snapshots.get(-t).tree : null;
        }
    }

    static final class H {
        int dataset;
        int node;
        int[] locks = new int[2160];
    }

    P now = new P();
    P kept;
    int datasetsMade = 1;
    int snapshotsMade;
    int caller;
    int acts;
    H[] handles = new H[9];
    List<Integer> path = new ArrayList<>();
    T streamFrom;
    T streamTo;
    final int disks;
    int suspect;
    boolean lost;
    StringBuilder tape = new StringBuilder();
    String outText = "";
    int wrong = -2;

    Model(int disks) {
        this.disks = disks < 4 ? 4 : disks > 7 ? 7 : disks;
        D first = new D();
        N root = new N();
        root.kind = 2;
        first.tree.nodes.put(1, root);
        now.datasets.put(1, first);
        kept = now.copy();
    }

    // ---- helpers ----

    N node(int t, int n) {
        T tree = now.tree(t);
        return tree == null ? null : tree.nodes.get(n);
    }

    boolean may(N n, int right) {
        return caller == 0 || ((n.owner == caller ? n.rights / 8 : n.rights) & right) != 0;
    }

    boolean mayChange(N n) {
        return may(n, 2) && may(n, 1);
    }

    static boolean name(int n) {
        return 1 <= n && n <= 1000000;
    }

    void gone() {
        for (Map.Entry<Integer, D> e : now.datasets.entrySet()) {
            T tree = e.getValue().tree;
            tree.nodes.entrySet().removeIf(x -> x.getValue().kind == 1 && tree.uses(x.getKey()) == 0
                && !isOpen(e.getKey(), x.getKey()));
        }
    }

    boolean isOpen(int dataset, int node) {
        for (H h : handles) {
            if (h != null && h.dataset == dataset && h.node == node) {
                return true;
            }
        }
        return false;
    }

    int act(int answer) {
        gone();
        acts++;
        if (acts == 100) {
            down();
        }
        return answer;
    }

    int down() {
        kept = now.copy();
        int k = acts;
        acts = 0;
        return k;
    }

    int downWith(int answer) {
        down();
        return answer;
    }

    void takeUp(int dataset) {
        for (int i = 1; i <= 8; i++) {
            if (handles[i] != null && handles[i].dataset == dataset) {
                handles[i] = null;
            }
        }
        gone();
    }

    /** Whether all has room now, seen from how it was before. */
    boolean fits(P before, int t, boolean limits) {
        if (now.blocks().size() > 400) {
            return false;
        }
        D d = now.datasets.get(t);
        D was = before.datasets.get(t);
        if (d.tree.blocks().size() > d.quota) {
            return false;
        }
        for (int u = 0; limits && u < 8; u++) {
            int k = d.tree.usage(u);
            if (k > d.limits[u] && k > was.tree.usage(u)) {
                return false;
            }
        }
        return true;
    }

    // ---- the calls ----

    int make(int t, int dir, int name, int kind) {
        return added(t, dir, name, kind, kind == 1 || kind == 2, false);
    }

    int added(int t, int dir, int name, int kind, boolean fine, boolean fromRoot) {
        N d = node(t, dir);
        if (d == null) {
            return -1;
        }
        if (!name(name) || !fine) {
            return -2;
        }
        List<Integer> steps = path;
        if (kind == 3) {
            path = new ArrayList<>();
        }
        if (t < 0 || d.kind != 2) {
            return -3;
        }
        if (!mayChange(d)) {
            return -5;
        }
        if (d.entries.containsKey(name)) {
            return -3;
        }
        if (d.entries.size() == 24 || now.tree(t).nodes.size() == 36) {
            return -4;
        }
        int k = 1;
        while (now.tree(t).nodes.containsKey(k)) {
            k++;
        }
        N n = new N();
        n.kind = kind;
        n.owner = caller;
        if (kind == 3) {
            n.path = steps;
            n.fromRoot = fromRoot;
        }
        now.tree(t).nodes.put(k, n);
        d.entries.put(name, k);
        return act(k);
    }

    int step(int name) {
        if (name == -1) {
            path.clear();
            return 0;
        }
        if (name != 0 && !name(name)) {
            return -2;
        }
        if (path.size() == 8) {
            return -4;
        }
        path.add(name);
        return path.size();
    }

    int makeLink(int t, int dir, int name, boolean fromRoot) {
        return added(t, dir, name, 3, !path.isEmpty(), fromRoot);
    }

    int walk(int t, int dir, boolean follow) {
        if (node(t, dir) == null) {
            return -1;
        }
        if (path.isEmpty()) {
            return -2;
        }
        List<Integer> todo = path;
        path = new ArrayList<>();
        int here = dir;
        int followed = 0;
        while (!todo.isEmpty()) {
            N d = node(t, here);
            if (d.kind != 2) {
                return -3;
            }
            if (!may(d, 1)) {
                return -5;
            }
            int s = todo.remove(0);
            if (s == 0) {
                here = here == 1 ? 1 : now.tree(t).above(here);
                continue;
            }
            if (!d.entries.containsKey(s)) {
                return -1;
            }
            int next = d.entries.get(s);
            N n = node(t, next);
            if (n.kind == 3 && (follow || !todo.isEmpty())) {
                if (++followed == 9) {
                    return -6;
                }
                todo.addAll(0, n.path);
                if (n.fromRoot) {
                    here = 1;
                }
            } else {
                here = next;
            }
        }
        return here;
    }

    int linked(int t, int node, int k) {
        N n = node(t, node);
        if (n == null) {
            return -1;
        }
        if (n.kind != 3) {
            return -3;
        }
        if (k == -1) {
            return n.fromRoot ? 1 : 0;
        }
        return k >= 0 && k < n.path.size() ? n.path.get(k) : -2;
    }

    int find(int t, int dir, int name) {
        N d = node(t, dir);
        if (d == null) {
            return -1;
        }
        if (!name(name)) {
            return -2;
        }
        if (d.kind != 2) {
            return -3;
        }
        if (!may(d, 1)) {
            return -5;
        }
        return d.entries.getOrDefault(name, -1);
    }

    int write(int t, int node, int at, long v, int n) {
        if (node(t, node) == null) {
            return -1;
        }
        if (n < 1 || n > 8 || at < 0 || (long) at + n > 2160) {
            return -2;
        }
        if (t < 0 || node(t, node).kind != 1) {
            return -3;
        }
        if (!may(node(t, node), 2)) {
            return -5;
        }
        P before = now;
        now = now.copy();
        N f = node(t, node);
        Set<Integer> touched = new HashSet<>();
        for (int i = 0; i < n; i++) {
            int p = (at + i) / 60;
            if (touched.add(p)) {
                Block b = new Block();
                if (f.pieces[p] != null) {
                    System.arraycopy(f.pieces[p].bytes, 0, b.bytes, 0, 60);
                }
                f.pieces[p] = b;
            }
            f.pieces[p].bytes[(at + i) % 60] = (byte) (v >> (n - 1 - i) * 8);
        }
        f.length = Math.max(f.length, at + n);
        if (!fits(before, t, true)) {
            now = before;
            return -4;
        }
        return act(f.length);
    }

    int read(int t, int node, int at) {
        N f = node(t, node);
        if (f == null) {
            return -1;
        }
        if (f.kind != 1) {
            return -3;
        }
        if (at < 0 || at >= f.length) {
            return -2;
        }
        return may(f, 4) ? f.bytes()[at] & 255 : -5;
    }

    int cut(int t, int node, int length) {
        if (node(t, node) == null) {
            return -1;
        }
        if (length < 0 || length > 2160) {
            return -2;
        }
        if (t < 0 || node(t, node).kind != 1) {
            return -3;
        }
        if (!may(node(t, node), 2)) {
            return -5;
        }
        P before = now;
        now = now.copy();
        N f = node(t, node);
        int was = f.length;
        for (int p = 0; p < 36; p++) {
            if (p * 60 >= length) {
                f.pieces[p] = null;
            } else if (p * 60 + 60 > length && length < was && f.pieces[p] != null) {
                Block b = new Block();
                System.arraycopy(f.pieces[p].bytes, 0, b.bytes, 0, length - p * 60);
                f.pieces[p] = b;
            }
        }
        f.length = length;
        if (now.blocks().size() > 400) {
            now = before;
            return -4;
        }
        return act(was);
    }

    int link(int t, int node, int dir, int name) {
        N f = node(t, node);
        N d = node(t, dir);
        if (f == null || d == null) {
            return -1;
        }
        if (!name(name)) {
            return -2;
        }
        if (t < 0 || f.kind != 1 || d.kind != 2) {
            return -3;
        }
        if (!mayChange(d)) {
            return -5;
        }
        if (d.entries.containsKey(name)) {
            return -3;
        }
        if (now.tree(t).uses(node) == 9 || d.entries.size() == 24) {
            return -4;
        }
        d.entries.put(name, node);
        return act(now.tree(t).uses(node));
    }

    int unlink(int t, int dir, int name) {
        N d = node(t, dir);
        if (d == null) {
            return -1;
        }
        if (!name(name)) {
            return -2;
        }
        if (t < 0 || d.kind != 2) {
            return -3;
        }
        if (!mayChange(d)) {
            return -5;
        }
        if (!d.entries.containsKey(name)) {
            return -1;
        }
        int n = d.entries.get(name);
        if (node(t, n).kind == 2 && !node(t, n).entries.isEmpty()) {
            return -3;
        }
        d.entries.remove(name);
        if (node(t, n).kind != 1) {
            now.tree(t).nodes.remove(n);
        }
        return act(n);
    }

    int rename(int t, int from, int name, int to, int newName) {
        N a = node(t, from);
        N b = node(t, to);
        if (a == null || b == null) {
            return -1;
        }
        if (!name(name) || !name(newName)) {
            return -2;
        }
        if (t < 0 || a.kind != 2 || b.kind != 2) {
            return -3;
        }
        if (!mayChange(a) || !mayChange(b)) {
            return -5;
        }
        if (!a.entries.containsKey(name)) {
            return -1;
        }
        int n = a.entries.get(name);
        if (from == to && name == newName) {
            return act(n);
        }
        boolean directory = node(t, n).kind == 2;
        for (int up = to; directory && up != 0; up = now.tree(t).above(up)) {
            if (up == n) {
                return -3;
            }
        }
        Integer there = b.entries.get(newName);
        if (there != null && (directory || node(t, there).kind == 2)) {
            return -3;
        }
        if (there == null && from != to && b.entries.size() == 24) {
            return -4;
        }
        a.entries.remove(name);
        if (there == null || there != n) {
            b.entries.put(newName, n);
            if (there != null && node(t, there).kind == 3) {
                now.tree(t).nodes.remove(there);
            }
        }
        return act(n);
    }

    int about(int t, int node, int what) {
        N n = node(t, node);
        if (n == null) {
            return -1;
        }
        T tree = now.tree(t);
        int[] all = {n.kind, n.size(), tree.uses(node), n.blocks(), n.kind == 1 ? 0 : tree.above(node),
            n.owner, n.rights, n.attributes.size()};
        return what < 0 || what > 7 ? -2 : all[what];
    }

    int entry(int t, int dir, int k) {
        N d = node(t, dir);
        if (d == null) {
            return -1;
        }
        if (d.kind != 2) {
            return -3;
        }
        if (!may(d, 4)) {
            return -5;
        }
        return k < 0 || k >= d.entries.size() ? -2 : new ArrayList<>(d.entries.keySet()).get(k);
    }

    int own(int t, int node, int user) {
        if (node(t, node) == null) {
            return -1;
        }
        if (user < 0 || user > 7) {
            return -2;
        }
        if (t < 0) {
            return -3;
        }
        if (caller != 0) {
            return -5;
        }
        P before = now;
        now = now.copy();
        int was = node(t, node).owner;
        node(t, node).owner = user;
        if (!fits(before, t, true)) {
            now = before;
            return -4;
        }
        return act(was);
    }

    int rights(int t, int node, int v) {
        N n = node(t, node);
        if (n == null) {
            return -1;
        }
        if (v < 0 || v > 63) {
            return -2;
        }
        if (t < 0) {
            return -3;
        }
        if (caller != 0 && caller != n.owner) {
            return -5;
        }
        int was = n.rights;
        n.rights = v;
        return act(was);
    }

    int attribute(int t, int node, int key, long v, boolean on) {
        N n = node(t, node);
        if (n == null) {
            return -1;
        }
        if (key < 1 || key > 99) {
            return -2;
        }
        if (t < 0) {
            return -3;
        }
        if (caller != 0 && caller != n.owner) {
            return -5;
        }
        boolean was = n.attributes.containsKey(key);
        if (on && !was && n.attributes.size() == 4) {
            return -4;
        }
        n.attributes.remove(key);
        if (on) {
            n.attributes.put(key, v);
        }
        return act(was ? 1 : 0);
    }

    long attributeOf(int t, int node, int key) {
        N n = node(t, node);
        return n == null ? 0 : n.attributes.getOrDefault(key, 0L);
    }

    int key(int t, int node, int k) {
        N n = node(t, node);
        if (n == null) {
            return -1;
        }
        return k < 0 || k >= n.attributes.size() ? -2 : new ArrayList<>(n.attributes.keySet()).get(k);
    }

    int as(int user) {
        if (user < 0 || user > 7) {
            return -2;
        }
        int was = caller;
        caller = user;
        return was;
    }

    int usage(int t, int user) {
        T tree = now.tree(t);
        if (tree == null) {
            return -1;
        }
        return user < 0 || user > 7 ? -2 : tree.usage(user);
    }

    int limit(int dataset, int user, int blocks) {
        D d = now.datasets.get(dataset);
        if (d == null) {
            return -1;
        }
        if (user < 0 || user > 7 || blocks < 0 || blocks > 400) {
            return -2;
        }
        if (d.tree.usage(user) > blocks) {
            return -3;
        }
        if (caller != 0) {
            return -5;
        }
        int was = d.limits[user];
        d.limits[user] = blocks;
        return downWith(was);
    }

    H handleAt(int i) {
        return i < 1 || i > 8 ? null : handles[i];
    }

    int lock(int handle, int from, int to, int kind) {
        H h = handleAt(handle);
        if (h == null) {
            return -1;
        }
        if (!(0 <= from && from <= to && to <= 2159) || kind < 0 || kind > 2) {
            return -2;
        }
        for (int i = 1; i <= 8; i++) {
            H o = handles[i];
            if (i != handle && o != null && o.dataset == h.dataset && o.node == h.node) {
                for (int b = from; b <= to; b++) {
                    if (kind == 2 && o.locks[b] != 0 || kind == 1 && o.locks[b] == 2) {
                        return i;
                    }
                }
            }
        }
        Arrays.fill(h.locks, from, to + 1, kind);
        return 0;
    }

    int locked(int handle, int at) {
        H h = handleAt(handle);
        if (h == null) {
            return -1;
        }
        return at < 0 || at > 2159 ? -2 : h.locks[at];
    }

    int open(int t, int node) {
        N f = node(t, node);
        if (f == null) {
            return -1;
        }
        if (t < 0 || f.kind != 1) {
            return -3;
        }
        if (!may(f, 6)) {
            return -5;
        }
        for (int i = 1; i <= 8; i++) {
            if (handles[i] == null) {
                handles[i] = new H();
                handles[i].dataset = t;
                handles[i].node = node;
                return i;
            }
        }
        return -4;
    }

    int close(int handle) {
        H h = handleAt(handle);
        if (h == null) {
            return -1;
        }
        handles[handle] = null;
        return act(h.node);
    }

    int handle(int handle, int what) {
        H h = handleAt(handle);
        if (h == null) {
            return -1;
        }
        return what == 0 ? h.dataset : what == 1 ? h.node : -2;
    }

    int snapshot(int dataset) {
        D d = now.datasets.get(dataset);
        if (d == null) {
            return -1;
        }
        if (caller != 0) {
            return -5;
        }
        if (now.snapshots.size() == 8) {
            return -4;
        }
        S s = new S();
        s.dataset = dataset;
        s.tree = d.tree.copy();
        now.snapshots.put(++snapshotsMade, s);
        return downWith(snapshotsMade);
    }

    int clone(int snapshot) {
        S s = now.snapshots.get(snapshot);
        if (s == null) {
            return -1;
        }
        if (caller != 0) {
            return -5;
        }
        if (now.datasets.size() == 5) {
            return -4;
        }
        D d = new D();
        d.origin = snapshot;
        d.tree = s.tree.copy();
        now.datasets.put(++datasetsMade, d);
        takeUp(datasetsMade);
        return downWith(datasetsMade);
    }

    int back(int dataset, int snapshot) {
        D d = now.datasets.get(dataset);
        S s = now.snapshots.get(snapshot);
        if (d == null || s == null) {
            return -1;
        }
        if (s.dataset != dataset) {
            return -3;
        }
        for (Map.Entry<Integer, S> e : now.snapshots.entrySet()) {
            if (e.getKey() > snapshot && e.getValue().dataset == dataset) {
                return -3;
            }
        }
        if (caller != 0) {
            return -5;
        }
        if (s.tree.used().blocks().size() > d.quota) {
            return -4;
        }
        d.tree = s.tree.copy();
        takeUp(dataset);
        return downWith(1);
    }

    int destroy(int t) {
        if (now.tree(t) == null) {
            return -1;
        }
        if (t > 0) {
            for (S s : now.snapshots.values()) {
                if (s.dataset == t) {
                    return -3;
                }
            }
            if (now.datasets.size() == 1) {
                return -3;
            }
        } else {
            for (D d : now.datasets.values()) {
                if (d.origin == -t) {
                    return -3;
                }
            }
            if (now.snapshots.get(-t).hold) {
                return -3;
            }
        }
        if (caller != 0) {
            return -5;
        }
        int before = now.blocks().size();
        if (t > 0) {
            takeUp(t);
            now.datasets.remove(t);
        } else {
            now.snapshots.remove(-t);
        }
        return downWith(before - now.blocks().size());
    }

    int hold(int snapshot, boolean on) {
        S s = now.snapshots.get(snapshot);
        if (s == null) {
            return -1;
        }
        if (caller != 0) {
            return -5;
        }
        int was = s.hold ? 1 : 0;
        s.hold = on;
        return downWith(was);
    }

    int quota(int dataset, int blocks) {
        D d = now.datasets.get(dataset);
        if (d == null) {
            return -1;
        }
        if (blocks < 0 || blocks > 400) {
            return -2;
        }
        if (d.tree.blocks().size() > blocks) {
            return -3;
        }
        if (caller != 0) {
            return -5;
        }
        int was = d.quota;
        d.quota = blocks;
        return downWith(was);
    }

    int held(int t, boolean alone) {
        if (t == 0) {
            return alone ? -2 : now.blocks().size();
        }
        if (now.tree(t) == null) {
            return -1;
        }
        Set<Block> mine = now.tree(t).blocks();
        for (int d : alone ? now.datasets.keySet() : new HashSet<Integer>()) {
            if (d != t) {
                mine.removeAll(now.tree(d).blocks());
            }
        }
        for (int s : alone ? now.snapshots.keySet() : new HashSet<Integer>()) {
            if (-s != t) {
                mine.removeAll(now.tree(-s).blocks());
            }
        }
        return mine.size();
    }

    int told(int t, int what) {
        T tree = now.tree(t);
        if (tree == null) {
            return -1;
        }
        D d = now.datasets.get(t);
        S s = now.snapshots.get(-t);
        if (what == 0) {
            return t > 0 ? d.origin : s.dataset;
        }
        if (what == 1) {
            int k = 0;
            for (S o : now.snapshots.values()) {
                k += o.dataset == t ? 1 : 0;
            }
            return k;
        }
        if (what == 2) {
            return t > 0 ? d.quota : s.hold ? 1 : 0;
        }
        return what == 3 ? tree.nodes.size() : -2;
    }

    int differs(int t, int other, int k) {
        if (now.tree(t) == null || now.tree(other) == null) {
            return -1;
        }
        List<Integer> all = now.tree(t).differing(now.tree(other));
        return k < 0 || k >= all.size() ? -2 : all.get(k);
    }

    int send(int from, int to) {
        S a = now.snapshots.get(from);
        S b = now.snapshots.get(to);
        if (a == null || b == null) {
            return -1;
        }
        if (a.dataset != b.dataset) {
            return -3;
        }
        if (caller != 0) {
            return -5;
        }
        streamFrom = a.tree.used();
        streamTo = b.tree.used();
        return 1;
    }

    int receive(int dataset) {
        D d = now.datasets.get(dataset);
        if (d == null) {
            return -1;
        }
        if (streamFrom == null || !d.tree.used().differing(streamFrom).isEmpty()) {
            return -3;
        }
        if (caller != 0) {
            return -5;
        }
        P before = now;
        now = now.copy();
        T old = d.tree.used();
        T next = streamTo.copy();
        int fresh = 0;
        for (Map.Entry<Integer, N> e : next.nodes.entrySet()) {
            N n = e.getValue();
            N o = old.nodes.get(e.getKey());
            for (int p = 0; p < 36; p++) {
                if (n.pieces[p] == null) {
                    continue;
                }
                Block had = o == null || o.kind != 1 || n.kind != 1 ? null : o.pieces[p];
                if (had != null && Arrays.equals(had.bytes, n.pieces[p].bytes)) {
                    n.pieces[p] = had;
                } else {
                    Block b = new Block();
                    System.arraycopy(n.pieces[p].bytes, 0, b.bytes, 0, 60);
                    n.pieces[p] = b;
                    fresh++;
                }
            }
        }
        now.datasets.get(dataset).tree = next;
        if (!fits(before, dataset, false)) {
            now = before;
            return -4;
        }
        takeUp(dataset);
        return downWith(fresh);
    }

    int commit() {
        return down();
    }

    int sync() {
        return down();
    }

    int crash(int how) {
        if (how < 0 || how > 4) {
            return -2;
        }
        if (how == 4) {
            down();
        }
        int k = acts;
        now = kept.copy();
        Arrays.fill(handles, null);
        gone();
        caller = 0;
        path.clear();
        streamFrom = null;
        streamTo = null;
        down();
        return k;
    }

    int spoil(int disk, int seed, int n) {
        if (disk < 1 || disk > disks) {
            return -1;
        }
        if (n < 1 || n > 2000) {
            return -2;
        }
        if (suspect != 0 && suspect != disk || lost) {
            return -3;
        }
        suspect = disk;
        return 1;
    }

    int lose(int disk) {
        int k = spoil(disk, 1, 1);
        if (k == 1) {
            lost = true;
        }
        return k;
    }

    int bring(int disk, boolean empty) {
        if (disk < 1 || disk > disks) {
            return -1;
        }
        if (disk != suspect || !lost) {
            return -3;
        }
        lost = false;
        return 1;
    }

    int scrub(boolean cut) {
        if (lost) {
            return -3;
        }
        down();
        if (cut) {
            return 0;
        }
        int was = suspect;
        suspect = 0;
        return was;
    }

    int disk(int disk) {
        if (disk < 1 || disk > disks) {
            return -1;
        }
        return disk != suspect ? 0 : lost ? 2 : 1;
    }

    int feed(int a, int b, int c, int d, int e) {
        if (tape.length() > 7980) {
            return -4;
        }
        for (int w : new int[] {a, b, c, d, e}) {
            for (int i = 3; i >= 0; i--) {
                tape.append((char) (w >> 8 * i & 255));
            }
        }
        return tape.length();
    }

    int end(int n) {
        int had = tape.length();
        if (n < 0 || n > had) {
            return -2;
        }
        tape.setLength(n);
        return had;
    }

    /** The SCRIPT by way of Java's own means: split(), patterns and reflection. */
    int run() {
        String[] lines = tape.toString().split("\n", -1);
        tape.setLength(0);
        outText = "";
        wrong = -2;
        List<Long> answers = new ArrayList<>();
        for (int l = 0; l < lines.length; l++) {
            List<String> words = new ArrayList<>();
            for (String w : lines[l].split(" ")) {
                if (!w.isEmpty()) {
                    words.add(w);
                }
            }
            if (words.isEmpty()) {
                continue;
            }
            Long answer = lineAnswer(words, answers);
            if (answer == null) {
                return -10 - l;
            }
            answers.add(answer);
            outText += answer + "\n";
        }
        return answers.size();
    }

    Long lineAnswer(List<String> words, List<Long> answers) {
        Method called = null;
        for (Method m : PoolHouse.class.getDeclaredMethods()) {
            boolean open = java.lang.reflect.Modifier.isPublic(m.getModifiers());
            if (open && m.getName().equals(words.get(0)) && !m.getName().matches("feed|end|run|out|line")) {
                called = m;
            }
        }
        if (called == null) {
            wrong = 0;
            return null;
        }
        Class<?>[] wanted = called.getParameterTypes();
        Object[] given = new Object[wanted.length];
        for (int i = 1; i < Math.max(words.size(), wanted.length + 1); i++) {
            Long v = i >= words.size() || i > wanted.length ? null : word(words.get(i), i, given, answers);
            if (v == null || wanted[i - 1] == int.class && v != (int) (long) v
                || wanted[i - 1] == boolean.class && v != 0 && v != 1) {
                wrong = i;
                return null;
            }
            given[i - 1] = wanted[i - 1] == int.class ? (Object) (int) (long) v
                : wanted[i - 1] == boolean.class ? (Object) (v == 1) : (Object) v;
        }
        try {
            Object o = Model.class.getDeclaredMethod(called.getName(), wanted).invoke(this, given);
            return ((Number) o).longValue();
        } catch (ReflectiveOperationException e) {
            throw new IllegalStateException(e);
        }
    }

    Long word(String w, int i, Object[] given, List<Long> answers) {
        if (w.matches("-?[0-9]{1,18}")) {
            return Long.parseLong(w);
        }
        if (w.matches("@[0-9]{1,18}")) {
            long k = Long.parseLong(w.substring(1));
            return k < answers.size() ? answers.get((int) k) : null;
        }
        if (i == 1 || !w.matches("/|(/[0-9]{1,7})+")) {
            return null;
        }
        T tree = now.tree((Integer) given[0]);
        if (tree == null) {
            return 0L;
        }
        int here = 1;
        for (String s : w.substring(1).split("/")) {
            if (!s.isEmpty()) {
                N n = tree.nodes.get(here);
                here = n == null ? 0 : n.entries.getOrDefault(Integer.parseInt(s), 0);
            }
        }
        return (long) here;
    }

    int out(int i) {
        return i < 0 || i >= outText.length() ? -2 : outText.charAt(i);
    }

    int line() {
        return wrong;
    }

    int oddities() {
        return 0;
    }
}
