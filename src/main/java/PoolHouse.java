/**
 * A pool of trees of files: trees that can be kept as they were, taken up anew and gone back to.
 * The document (../shared/DOC.md) tells what each call answers; its words stand here in capitals.
 */
public final class PoolHouse {
    private static final int NO_SUCH = -1;
    private static final int OUT_OF_RANGE = -2;
    private static final int WRONG_STATE = -3;
    private static final int NO_ROOM = -4;
    private static final int MAY_NOT = -5;
    private static final int TOO_MANY_LINKS = -6;

    private static final int FILE = 1;
    private static final int DIRECTORY = 2;
    private static final int LINK = 3;
    private static final int ROOT = 1;

    private static final int MOST_NODES = 36;
    private static final int MOST_ENTRIES = 24;
    private static final int MOST_USES = 9;
    private static final int MOST_NAME = 1000000;
    private static final int PIECE = 60;
    private static final int MOST_PIECES = 36;
    private static final int MOST_BYTES = 2160;
    private static final int MOST_BLOCKS = 400;
    private static final int MOST_STEPS = 8;
    private static final int MOST_FOLLOWED = 8;
    private static final int MOST_WALKED = 100;
    private static final int MOST_KEYS = 4;
    private static final int MOST_KEY = 99;
    private static final int MOST_DATASETS = 5;
    private static final int MOST_SNAPSHOTS = 8;
    private static final int MOST_HANDLES = 8;
    private static final int MOST_ACTS = 100;
    private static final int USERS = 8;

    private static final int TO_READ = 4;
    private static final int TO_WRITE = 2;
    private static final int TO_ENTER = 1;
    private static final int ALL_RIGHTS = 63;
    private static final int FIRST_RIGHTS = 61;

    private static final int NOT_LOCKED = 0;
    private static final int ALONE = 2;

    private final Rows rows;
    private final Dataset[] datasets = new Dataset[MOST_DATASETS];
    private final Snapshot[] snapshots = new Snapshot[MOST_SNAPSHOTS];
    private final Handle[] handles = new Handle[MOST_HANDLES];
    private final Tree streamFrom;
    private final Tree streamTo;
    private final Path path = new Path();
    private final Disks disks;
    private final Script script = new Script();
    private boolean streamed;
    private int datasetsMade;
    private int snapshotsMade;
    private int caller;
    private int acts;

    public PoolHouse(int disks) {
        this.disks = new Disks(Math.min(7, Math.max(4, disks)));
        Rows made = new Rows();
        rows = made;
        streamFrom = new Tree(made, true);
        streamTo = new Tree(made, true);
        for (int i = 0; i < MOST_DATASETS; i++) {
            datasets[i] = new Dataset(made);
        }
        for (int i = 0; i < MOST_SNAPSHOTS; i++) {
            snapshots[i] = new Snapshot(made);
        }
        for (int i = 0; i < MOST_HANDLES; i++) {
            handles[i] = new Handle();
        }
        datasetsMade = 1;
        datasets[0].begin(1, 0);
        datasets[0].tree.nodes[ROOT].begin(DIRECTORY, 0);
        datasets[0].kept.copyFrom(datasets[0].tree);
    }

    // ---- NODES and their NAMES ----

    public int make(int t, int dir, int name, int kind) {
        Node parent = nodeOf(treeOf(t), dir);
        if (parent == null) {
            return NO_SUCH;
        }
        if (!isName(name) || kind < FILE || kind > DIRECTORY) {
            return OUT_OF_RANGE;
        }
        Dataset dataset = datasetOf(t);
        if (dataset == null) {
            return WRONG_STATE;
        }
        int made = added(dataset, dir, name, kind);
        if (made > 0) {
            act(dataset);
        }
        return made;
    }

    public int step(int name) {
        if (name == -1) {
            path.empty();
            return 0;
        }
        if (name != 0 && !isName(name)) {
            return OUT_OF_RANGE;
        }
        return path.add(name) ? path.count : NO_ROOM;
    }

    public int makeLink(int t, int dir, int name, boolean fromRoot) {
        Node parent = nodeOf(treeOf(t), dir);
        if (parent == null) {
            return NO_SUCH;
        }
        if (!isName(name) || path.count == 0) {
            return OUT_OF_RANGE;
        }
        Dataset dataset = datasetOf(t);
        int made = dataset == null ? WRONG_STATE : added(dataset, dir, name, LINK);
        Node link = dataset == null ? null : dataset.tree.nodeAt(made);
        if (dataset != null && link != null) {
            // The PATH comes before the ACT counts, as that may put down the LINK.
            link.leadTo(path, fromRoot);
            act(dataset);
        }
        path.empty();
        return made;
    }

    public int walk(int t, int dir, boolean follow) {
        Tree tree = treeOf(t);
        Node start = nodeOf(tree, dir);
        if (start == null) {
            return NO_SUCH;
        }
        if (path.count == 0) {
            return OUT_OF_RANGE;
        }
        path.setOut();
        path.empty();
        return arrived(tree, dir, follow);
    }

    public int linked(int t, int node, int k) {
        Node link = nodeOf(treeOf(t), node);
        if (link == null) {
            return NO_SUCH;
        }
        if (link.kind != LINK) {
            return WRONG_STATE;
        }
        if (k == -1) {
            return link.fromRoot ? 1 : 0;
        }
        return k < 0 || k >= link.length || k >= MOST_STEPS ? OUT_OF_RANGE : link.steps[k];
    }

    public int find(int t, int dir, int name) {
        Node parent = nodeOf(treeOf(t), dir);
        if (parent == null) {
            return NO_SUCH;
        }
        if (!isName(name)) {
            return OUT_OF_RANGE;
        }
        if (parent.kind != DIRECTORY) {
            return WRONG_STATE;
        }
        if (!may(parent, TO_ENTER)) {
            return MAY_NOT;
        }
        int found = parent.meaning(name);
        return found == 0 ? NO_SUCH : found;
    }

    // ---- the bytes of FILES ----

    public int write(int t, int node, int at, long v, int n) {
        Node file = nodeOf(treeOf(t), node);
        if (file == null) {
            return NO_SUCH;
        }
        if (n < 1 || n > 8 || at < 0 || at > MOST_BYTES - n) {
            return OUT_OF_RANGE;
        }
        Dataset dataset = datasetOf(t);
        if (dataset == null || file.kind != FILE) {
            return WRONG_STATE;
        }
        if (!may(file, TO_WRITE)) {
            return MAY_NOT;
        }
        int first = at / PIECE;
        int last = (at + n - 1) / PIECE;
        int more = 0;
        int added = 0;
        for (int p = first; p <= last; p++) {
            added += file.pieces[p] == 0 ? 1 : 0;
            more += rows.isAlone(file.pieces[p]) ? 0 : 1;
        }
        if (rows.held + more > MOST_BLOCKS || added > 0 && !dataset.hasRoom(file.owner, added)) {
            return NO_ROOM;
        }
        for (int p = first; p <= last; p++) {
            file.renew(p, rows);
        }
        for (int i = 0; i < n; i++) {
            file.put(at + i, (int) (v >>> 8 * (n - 1 - i)), rows);
        }
        file.length = Math.max(file.length, at + n);
        act(dataset);
        return file.length;
    }

    public int read(int t, int node, int at) {
        Node file = nodeOf(treeOf(t), node);
        if (file == null) {
            return NO_SUCH;
        }
        if (file.kind != FILE) {
            return WRONG_STATE;
        }
        if (at < 0 || at >= file.length) {
            return OUT_OF_RANGE;
        }
        return may(file, TO_READ) ? rows.at(file.pieces[at / PIECE], at % PIECE) : MAY_NOT;
    }

    public int cut(int t, int node, int length) {
        Node file = nodeOf(treeOf(t), node);
        if (file == null) {
            return NO_SUCH;
        }
        if (length < 0 || length > MOST_BYTES) {
            return OUT_OF_RANGE;
        }
        Dataset dataset = datasetOf(t);
        if (dataset == null || file.kind != FILE) {
            return WRONG_STATE;
        }
        if (!may(file, TO_WRITE)) {
            return MAY_NOT;
        }
        int was = file.length;
        int whole = (length + PIECE - 1) / PIECE;
        boolean within = length < was && length % PIECE != 0 && file.pieces[length / PIECE] != 0;
        int more = within && !rows.isAlone(file.pieces[length / PIECE]) ? 1 : 0;
        for (int p = whole; p < MOST_PIECES; p++) {
            more -= rows.isAlone(file.pieces[p]) ? 1 : 0;
        }
        if (rows.held + more > MOST_BLOCKS) {
            return NO_ROOM;
        }
        file.letGoFrom(whole, rows, false);
        if (within) {
            file.renew(length / PIECE, rows);
            rows.blankFrom(file.pieces[length / PIECE], length % PIECE);
        }
        file.length = length;
        act(dataset);
        return was;
    }

    // ---- ENTRIES ----

    public int link(int t, int node, int dir, int name) {
        Tree tree = treeOf(t);
        Node file = nodeOf(tree, node);
        Node parent = nodeOf(tree, dir);
        if (file == null || parent == null) {
            return NO_SUCH;
        }
        if (!isName(name)) {
            return OUT_OF_RANGE;
        }
        Dataset dataset = datasetOf(t);
        if (dataset == null || file.kind != FILE || parent.kind != DIRECTORY) {
            return WRONG_STATE;
        }
        if (!mayChange(parent)) {
            return MAY_NOT;
        }
        if (parent.meaning(name) != 0) {
            return WRONG_STATE;
        }
        if (file.uses >= MOST_USES || parent.count >= MOST_ENTRIES) {
            return NO_ROOM;
        }
        parent.enter(name, node);
        file.uses++;
        act(dataset);
        return file.uses;
    }

    public int unlink(int t, int dir, int name) {
        Tree tree = treeOf(t);
        Node parent = nodeOf(tree, dir);
        if (parent == null) {
            return NO_SUCH;
        }
        if (!isName(name)) {
            return OUT_OF_RANGE;
        }
        Dataset dataset = datasetOf(t);
        if (dataset == null || parent.kind != DIRECTORY) {
            return WRONG_STATE;
        }
        if (!mayChange(parent)) {
            return MAY_NOT;
        }
        int meant = parent.meaning(name);
        Node node = nodeOf(tree, meant);
        if (node == null) {
            return NO_SUCH;
        }
        if (node.kind == DIRECTORY && node.count > 0) {
            return WRONG_STATE;
        }
        parent.strike(name);
        node.uses--;
        dropIfGone(dataset, meant);
        act(dataset);
        return meant;
    }

    public int rename(int t, int from, int name, int to, int newName) {
        Tree tree = treeOf(t);
        Node source = nodeOf(tree, from);
        Node target = nodeOf(tree, to);
        if (source == null || target == null) {
            return NO_SUCH;
        }
        if (!isName(name) || !isName(newName)) {
            return OUT_OF_RANGE;
        }
        Dataset dataset = datasetOf(t);
        if (dataset == null || source.kind != DIRECTORY || target.kind != DIRECTORY) {
            return WRONG_STATE;
        }
        if (!mayChange(source) || !mayChange(target)) {
            return MAY_NOT;
        }
        int moved = source.meaning(name);
        if (moved == 0) {
            return NO_SUCH;
        }
        if (from != to || name != newName) {
            int refused = whyNotMoved(tree, moved, from, to, newName);
            if (refused < 0) {
                return refused;
            }
            dropIfGone(dataset, move(tree, source, name, to, newName));
        }
        act(dataset);
        return moved;
    }

    public int about(int t, int node, int what) {
        Node asked = nodeOf(treeOf(t), node);
        if (asked == null) {
            return NO_SUCH;
        }
        switch (what) {
            case 0:
                return asked.kind;
            case 1:
                return asked.kind == DIRECTORY ? asked.count : asked.length;
            case 2:
                return asked.uses;
            case 3:
                return asked.blocks;
            case 4:
                return asked.above;
            case 5:
                return asked.owner;
            case 6:
                return asked.rights;
            case 7:
                return asked.keyCount;
            default:
                return OUT_OF_RANGE;
        }
    }

    public int entry(int t, int dir, int k) {
        Node parent = nodeOf(treeOf(t), dir);
        if (parent == null) {
            return NO_SUCH;
        }
        if (parent.kind != DIRECTORY) {
            return WRONG_STATE;
        }
        if (!may(parent, TO_READ)) {
            return MAY_NOT;
        }
        return k < 0 || k >= parent.count ? OUT_OF_RANGE : parent.names[k];
    }

    // ---- OWNERS, RIGHTS, ATTRIBUTES, USERS ----

    public int own(int t, int node, int user) {
        Node owned = nodeOf(treeOf(t), node);
        if (owned == null) {
            return NO_SUCH;
        }
        if (!isUser(user)) {
            return OUT_OF_RANGE;
        }
        Dataset dataset = datasetOf(t);
        if (dataset == null) {
            return WRONG_STATE;
        }
        if (caller != 0) {
            return MAY_NOT;
        }
        int was = owned.owner;
        boolean adds = user != was && owned.blocks > 0;
        if (adds && dataset.tree.blocksOf(user) + owned.blocks > dataset.limits[user]) {
            return NO_ROOM;
        }
        owned.owner = user;
        act(dataset);
        return was;
    }

    public int rights(int t, int node, int v) {
        Node changed = nodeOf(treeOf(t), node);
        if (changed == null) {
            return NO_SUCH;
        }
        if (v < 0 || v > ALL_RIGHTS) {
            return OUT_OF_RANGE;
        }
        Dataset dataset = datasetOf(t);
        if (dataset == null) {
            return WRONG_STATE;
        }
        if (!owns(changed)) {
            return MAY_NOT;
        }
        int was = changed.rights;
        changed.rights = v;
        act(dataset);
        return was;
    }

    public int attribute(int t, int node, int key, long v, boolean on) {
        Node changed = nodeOf(treeOf(t), node);
        if (changed == null) {
            return NO_SUCH;
        }
        if (key < 1 || key > MOST_KEY) {
            return OUT_OF_RANGE;
        }
        Dataset dataset = datasetOf(t);
        if (dataset == null) {
            return WRONG_STATE;
        }
        if (!owns(changed)) {
            return MAY_NOT;
        }
        boolean was = changed.hasKey(key);
        if (on && !was && changed.keyCount >= MOST_KEYS) {
            return NO_ROOM;
        }
        if (on) {
            changed.setKey(key, v);
        } else {
            changed.strikeKey(key);
        }
        act(dataset);
        return was ? 1 : 0;
    }

    public long attributeOf(int t, int node, int key) {
        Node asked = nodeOf(treeOf(t), node);
        return asked == null ? 0 : asked.valueOf(key);
    }

    public int key(int t, int node, int k) {
        Node asked = nodeOf(treeOf(t), node);
        if (asked == null) {
            return NO_SUCH;
        }
        return k < 0 || k >= asked.keyCount ? OUT_OF_RANGE : asked.keys[k];
    }

    public int as(int user) {
        if (!isUser(user)) {
            return OUT_OF_RANGE;
        }
        int was = caller;
        caller = user;
        return was;
    }

    public int usage(int t, int user) {
        Tree tree = treeOf(t);
        if (tree == null) {
            return NO_SUCH;
        }
        return isUser(user) ? tree.blocksOf(user) : OUT_OF_RANGE;
    }

    public int limit(int dataset, int user, int blocks) {
        Dataset limited = datasetOf(dataset);
        if (limited == null) {
            return NO_SUCH;
        }
        if (!isUser(user) || blocks < 0 || blocks > MOST_BLOCKS) {
            return OUT_OF_RANGE;
        }
        if (limited.tree.blocksOf(user) > blocks) {
            return WRONG_STATE;
        }
        if (caller != 0) {
            return MAY_NOT;
        }
        int was = limited.limits[user];
        limited.limits[user] = blocks;
        putDown();
        return was;
    }

    // ---- HANDLES ----

    public int lock(int handle, int from, int to, int kind) {
        Handle locking = openHandle(handle);
        if (locking == null) {
            return NO_SUCH;
        }
        if (from < 0 || to < from || to >= MOST_BYTES || kind < NOT_LOCKED || kind > ALONE) {
            return OUT_OF_RANGE;
        }
        for (int i = 0; i < MOST_HANDLES; i++) {
            Handle other = handles[i];
            if (other != locking && other.isFor(locking.dataset, locking.node) && other.bars(from, to, kind)) {
                return i + 1;
            }
        }
        locking.mark(from, to, kind);
        return 0;
    }

    public int locked(int handle, int at) {
        Handle asked = openHandle(handle);
        if (asked == null) {
            return NO_SUCH;
        }
        return at < 0 || at >= MOST_BYTES ? OUT_OF_RANGE : asked.locks[at];
    }

    public int open(int t, int node) {
        Node file = nodeOf(treeOf(t), node);
        if (file == null) {
            return NO_SUCH;
        }
        Dataset dataset = datasetOf(t);
        if (dataset == null || file.kind != FILE) {
            return WRONG_STATE;
        }
        if (!may(file, TO_READ) && !may(file, TO_WRITE)) {
            return MAY_NOT;
        }
        for (int i = 0; i < MOST_HANDLES; i++) {
            if (handles[i].dataset == null) {
                handles[i].begin(dataset, node);
                return i + 1;
            }
        }
        return NO_ROOM;
    }

    public int close(int handle) {
        Handle closed = openHandle(handle);
        if (closed == null) {
            return NO_SUCH;
        }
        Dataset dataset = closed.dataset;
        int node = closed.node;
        closed.dataset = null;
        dropIfGone(dataset, node);
        act(dataset);
        return node;
    }

    public int handle(int handle, int what) {
        Handle asked = openHandle(handle);
        if (asked == null) {
            return NO_SUCH;
        }
        if (what == 0) {
            return asked.dataset.number;
        }
        return what == 1 ? asked.node : OUT_OF_RANGE;
    }

    // ---- DATASETS and SNAPSHOTS ----

    public int snapshot(int dataset) {
        Dataset source = datasetOf(dataset);
        if (source == null) {
            return NO_SUCH;
        }
        if (caller != 0) {
            return MAY_NOT;
        }
        for (int i = 0; i < MOST_SNAPSHOTS; i++) {
            if (snapshots[i].number == 0) {
                snapshotsMade++;
                snapshots[i].begin(snapshotsMade, source);
                putDown();
                return snapshotsMade;
            }
        }
        return NO_ROOM;
    }

    public int clone(int snapshot) {
        Snapshot source = snapshotOf(snapshot);
        if (source == null) {
            return NO_SUCH;
        }
        if (caller != 0) {
            return MAY_NOT;
        }
        for (int i = 0; i < MOST_DATASETS; i++) {
            if (datasets[i].number == 0) {
                datasetsMade++;
                datasets[i].begin(datasetsMade, snapshot);
                datasets[i].tree.copyFrom(source.tree);
                takeUp(datasets[i]);
                putDown();
                return datasetsMade;
            }
        }
        return NO_ROOM;
    }

    public int back(int dataset, int snapshot) {
        Dataset changed = datasetOf(dataset);
        Snapshot source = snapshotOf(snapshot);
        if (changed == null || source == null) {
            return NO_SUCH;
        }
        if (source.dataset != dataset || latestSnapshotOf(dataset) > snapshot) {
            return WRONG_STATE;
        }
        if (caller != 0) {
            return MAY_NOT;
        }
        if (source.tree.blocksUsed() > changed.quota) {
            return NO_ROOM;
        }
        changed.tree.copyFrom(source.tree);
        takeUp(changed);
        putDown();
        return 1;
    }

    public int destroy(int t) {
        Dataset dataset = datasetOf(t);
        Snapshot snapshot = t < 0 ? snapshotOf(-t) : null;
        if (dataset == null && snapshot == null) {
            return NO_SUCH;
        }
        if (dataset != null && (snapshotsOf(t) > 0 || countDatasets() == 1)) {
            return WRONG_STATE;
        }
        if (snapshot != null && (snapshot.onHold || isOrigin(snapshot.number))) {
            return WRONG_STATE;
        }
        if (caller != 0) {
            return MAY_NOT;
        }
        int before = rows.held;
        if (dataset != null) {
            closeAll(dataset);
            dataset.leave();
        }
        if (snapshot != null) {
            snapshot.leave();
        }
        putDown();
        return before - rows.held;
    }

    public int hold(int snapshot, boolean on) {
        Snapshot changed = snapshotOf(snapshot);
        if (changed == null) {
            return NO_SUCH;
        }
        if (caller != 0) {
            return MAY_NOT;
        }
        int was = changed.onHold ? 1 : 0;
        changed.onHold = on;
        putDown();
        return was;
    }

    public int quota(int dataset, int blocks) {
        Dataset changed = datasetOf(dataset);
        if (changed == null) {
            return NO_SUCH;
        }
        if (blocks < 0 || blocks > MOST_BLOCKS) {
            return OUT_OF_RANGE;
        }
        if (changed.tree.blocks() > blocks) {
            return WRONG_STATE;
        }
        if (caller != 0) {
            return MAY_NOT;
        }
        int was = changed.quota;
        changed.quota = blocks;
        putDown();
        return was;
    }

    public int held(int t, boolean alone) {
        if (t == 0) {
            return alone ? OUT_OF_RANGE : rows.held;
        }
        Tree tree = treeOf(t);
        if (tree == null) {
            return NO_SUCH;
        }
        return alone ? tree.blocksAlone() : tree.blocks();
    }

    public int told(int t, int what) {
        Tree tree = treeOf(t);
        if (tree == null) {
            return NO_SUCH;
        }
        Dataset dataset = datasetOf(t);
        Snapshot snapshot = t < 0 ? snapshotOf(-t) : null;
        switch (what) {
            case 0:
                return dataset != null ? dataset.origin : snapshot != null ? snapshot.dataset : 0;
            case 1:
                return dataset != null ? snapshotsOf(t) : 0;
            case 2:
                return dataset != null ? dataset.quota : snapshot != null && snapshot.onHold ? 1 : 0;
            case 3:
                return tree.countNodes();
            default:
                return OUT_OF_RANGE;
        }
    }

    public int differs(int t, int other, int k) {
        Tree one = treeOf(t);
        Tree two = treeOf(other);
        if (one == null || two == null) {
            return NO_SUCH;
        }
        int left = k;
        for (int n = 1; n <= MOST_NODES && left >= 0; n++) {
            if (!one.nodes[n].isAs(two.nodes[n], rows)) {
                if (left == 0) {
                    return n;
                }
                left--;
            }
        }
        return OUT_OF_RANGE;
    }

    public int send(int from, int to) {
        Snapshot first = snapshotOf(from);
        Snapshot second = snapshotOf(to);
        if (first == null || second == null) {
            return NO_SUCH;
        }
        if (first.dataset != second.dataset) {
            return WRONG_STATE;
        }
        if (caller != 0) {
            return MAY_NOT;
        }
        streamFrom.copyFrom(first.tree);
        streamFrom.dropUnused();
        streamTo.copyFrom(second.tree);
        streamTo.dropUnused();
        streamed = true;
        return 1;
    }

    public int receive(int dataset) {
        Dataset changed = datasetOf(dataset);
        if (changed == null) {
            return NO_SUCH;
        }
        if (!streamed || !changed.tree.isUsedAs(streamFrom)) {
            return WRONG_STATE;
        }
        if (caller != 0) {
            return MAY_NOT;
        }
        int added = changed.tree.newBlocks(streamTo);
        int loosed = changed.tree.loosedBlocks(streamTo);
        if (rows.held - loosed + added > MOST_BLOCKS || streamTo.blocks() > changed.quota) {
            return NO_ROOM;
        }
        changed.tree.become(streamTo);
        takeUp(changed);
        putDown();
        return added;
    }

    // ---- what is put down ----

    public int commit() {
        return putDown();
    }

    public int sync() {
        return putDown();
    }

    public int crash(int how) {
        if (how < 0 || how > 4) {
            return OUT_OF_RANGE;
        }
        if (how == 4) {
            putDown();
        }
        int lost = acts;
        for (int i = 0; i < MOST_DATASETS; i++) {
            Dataset dataset = datasets[i];
            if (dataset.changed) {
                dataset.tree.copyFrom(dataset.kept);
            }
            if (dataset.number != 0) {
                takeUp(dataset);
            }
        }
        putDown();
        caller = 0;
        path.empty();
        streamed = false;
        streamFrom.clear();
        streamTo.clear();
        return lost;
    }

    // ---- disks ----

    public int spoil(int disk, int seed, int n) {
        if (!disks.has(disk)) {
            return NO_SUCH;
        }
        if (n < 1 || n > 2000) {
            return OUT_OF_RANGE;
        }
        return disks.suspected(disk, false) ? 1 : WRONG_STATE;
    }

    public int lose(int disk) {
        if (!disks.has(disk)) {
            return NO_SUCH;
        }
        return disks.suspected(disk, true) ? 1 : WRONG_STATE;
    }

    public int bring(int disk, boolean empty) {
        if (!disks.has(disk)) {
            return NO_SUCH;
        }
        return disks.broughtBack(disk) ? 1 : WRONG_STATE;
    }

    public int scrub(boolean cut) {
        if (disks.lost) {
            return WRONG_STATE;
        }
        putDown();
        return cut ? 0 : disks.mended();
    }

    public int disk(int disk) {
        return disks.has(disk) ? disks.stateOf(disk) : NO_SUCH;
    }

    // ---- SCRIPTS ----

    public int feed(int a, int b, int c, int d, int e) {
        if (!script.hasRoom()) {
            return NO_ROOM;
        }
        script.append(a);
        script.append(b);
        script.append(c);
        script.append(d);
        script.append(e);
        return script.tapeLength;
    }

    public int end(int n) {
        int had = script.tapeLength;
        if (n < 0 || n > had) {
            return OUT_OF_RANGE;
        }
        script.tapeLength = n;
        return had;
    }

    public int run() {
        script.begin();
        int answer = 0;
        for (int line = 0; line <= Script.MOST_TAPE && answer == 0 && script.nextLine(); line++) {
            if (script.nextWord()) {
                Call call = script.calledFor();
                int wrong = call == null ? 0 : firstWrongWord(call);
                if (wrong < 0) {
                    script.note(answerOf(call, script.given));
                } else {
                    script.wrong = wrong;
                    answer = -10 - line;
                }
            }
        }
        script.tapeLength = 0;
        return answer < 0 ? answer : script.done;
    }

    public int out(int i) {
        return i < 0 || i >= script.outLength ? OUT_OF_RANGE : script.out[i];
    }

    public int line() {
        return script.wrong;
    }

    public int oddities() {
        rows.beginTally();
        for (int i = 0; i < MOST_DATASETS; i++) {
            datasets[i].tree.tally();
            datasets[i].kept.tally();
        }
        for (int i = 0; i < MOST_SNAPSHOTS; i++) {
            snapshots[i].tree.tally();
        }
        streamFrom.tally();
        streamTo.tally();
        return rows.countOddities();
    }

    // ---- what is looked up ----

    private Dataset datasetOf(int number) {
        for (int i = 0; number > 0 && i < MOST_DATASETS; i++) {
            if (datasets[i].number == number) {
                return datasets[i];
            }
        }
        return null;
    }

    private Snapshot snapshotOf(int number) {
        for (int i = 0; number > 0 && i < MOST_SNAPSHOTS; i++) {
            if (snapshots[i].number == number) {
                return snapshots[i];
            }
        }
        return null;
    }

    private Tree treeOf(int t) {
        Dataset dataset = datasetOf(t);
        if (dataset != null) {
            return dataset.tree;
        }
        Snapshot snapshot = t < 0 ? snapshotOf(-t) : null;
        return snapshot == null ? null : snapshot.tree;
    }

    private Node nodeOf(Tree tree, int number) {
        return tree == null ? null : tree.nodeAt(number);
    }

    private Handle openHandle(int number) {
        if (number < 1 || number > MOST_HANDLES || handles[number - 1].dataset == null) {
            return null;
        }
        return handles[number - 1];
    }

    private boolean isName(int name) {
        return name >= 1 && name <= MOST_NAME;
    }

    private boolean isUser(int user) {
        return user >= 0 && user < USERS;
    }

    // ---- what the CALLER may ----

    private boolean may(Node node, int right) {
        int granted = node.owner == caller ? node.rights >> 3 : node.rights;
        return caller == 0 || (granted & right) != 0;
    }

    private boolean mayChange(Node directory) {
        return may(directory, TO_WRITE) && may(directory, TO_ENTER);
    }

    private boolean owns(Node node) {
        return caller == 0 || caller == node.owner;
    }

    // ---- parts of the calls ----

    private void act(Dataset dataset) {
        dataset.changed = true;
        acts++;
        if (acts >= MOST_ACTS) {
            putDown();
        }
    }

    private int putDown() {
        for (int i = 0; i < MOST_DATASETS; i++) {
            if (datasets[i].changed) {
                datasets[i].kept.copyFrom(datasets[i].tree);
                datasets[i].changed = false;
            }
        }
        int was = acts;
        acts = 0;
        return was;
    }

    private void takeUp(Dataset dataset) {
        closeAll(dataset);
        dataset.tree.dropUnused();
        dataset.changed = true;
    }

    private void closeAll(Dataset dataset) {
        for (int i = 0; i < MOST_HANDLES; i++) {
            if (handles[i].dataset == dataset) {
                handles[i].dataset = null;
            }
        }
    }

    /** A new NODE with its ENTRY; what make() and makeLink() have in common behind their ranges. */
    private int added(Dataset dataset, int dir, int name, int kind) {
        Node parent = dataset.tree.nodeAt(dir);
        if (parent == null || parent.kind != DIRECTORY) {
            return WRONG_STATE;
        }
        if (!mayChange(parent)) {
            return MAY_NOT;
        }
        if (parent.meaning(name) != 0) {
            return WRONG_STATE;
        }
        int number = dataset.tree.leastFree();
        if (parent.count >= MOST_ENTRIES || number == 0) {
            return NO_ROOM;
        }
        Node made = dataset.tree.nodes[number];
        made.begin(kind, caller);
        made.uses = 1;
        made.above = kind == FILE ? 0 : dir;
        parent.enter(name, number);
        return number;
    }

    /** Where the STEPS that path has before it lead from a NODE. */
    private int arrived(Tree tree, int from, boolean follow) {
        int here = from;
        int followed = 0;
        for (int i = 0; i < MOST_WALKED && path.left > 0; i++) {
            Node node = nodeOf(tree, here);
            if (node == null || node.kind != DIRECTORY) {
                return WRONG_STATE;
            }
            if (!may(node, TO_ENTER)) {
                return MAY_NOT;
            }
            int step = path.next();
            int found = step == 0 ? (here == ROOT ? ROOT : node.above) : node.meaning(step);
            Node next = nodeOf(tree, found);
            if (next == null) {
                return NO_SUCH;
            }
            if (next.kind != LINK || path.left == 0 && !follow) {
                here = found;
            } else if (followed == MOST_FOLLOWED) {
                return TOO_MANY_LINKS;
            } else {
                followed++;
                path.goBy(next);
                here = next.fromRoot ? ROOT : here;
            }
        }
        return here;
    }

    private int whyNotMoved(Tree tree, int moved, int from, int to, int newName) {
        Node node = nodeOf(tree, moved);
        Node target = nodeOf(tree, to);
        if (node == null || target == null) {
            return NO_SUCH;
        }
        boolean isDirectory = node.kind == DIRECTORY;
        if (isDirectory && tree.liesWithin(to, moved)) {
            return WRONG_STATE;
        }
        Node there = nodeOf(tree, target.meaning(newName));
        if (there != null && (isDirectory || there.kind == DIRECTORY)) {
            return WRONG_STATE;
        }
        return there == null && from != to && target.count >= MOST_ENTRIES ? NO_ROOM : 0;
    }

    /** Moves an ENTRY; the NODE that has an ENTRY less behind that, 0 when there is none. */
    private int move(Tree tree, Node source, int name, int to, int newName) {
        int moved = source.meaning(name);
        Node node = nodeOf(tree, moved);
        Node target = nodeOf(tree, to);
        if (node == null || target == null) {
            return 0;
        }
        int there = target.meaning(newName);
        source.strike(name);
        if (there != moved) {
            target.strike(newName);
            target.enter(newName, moved);
            node.above = node.kind == FILE ? 0 : to;
        }
        Node less = nodeOf(tree, there);
        if (less != null) {
            less.uses--;
        }
        return there;
    }

    private void dropIfGone(Dataset dataset, int number) {
        Node node = nodeOf(dataset.tree, number);
        if (node == null || node.uses > 0) {
            return;
        }
        for (int i = 0; i < MOST_HANDLES; i++) {
            if (handles[i].isFor(dataset, number)) {
                return;
            }
        }
        node.drop(rows, false);
    }

    private int countDatasets() {
        int count = 0;
        for (int i = 0; i < MOST_DATASETS; i++) {
            count += datasets[i].number == 0 ? 0 : 1;
        }
        return count;
    }

    private int snapshotsOf(int dataset) {
        int count = 0;
        for (int i = 0; i < MOST_SNAPSHOTS; i++) {
            count += snapshots[i].number != 0 && snapshots[i].dataset == dataset ? 1 : 0;
        }
        return count;
    }

    private int latestSnapshotOf(int dataset) {
        int latest = 0;
        for (int i = 0; i < MOST_SNAPSHOTS; i++) {
            if (snapshots[i].dataset == dataset) {
                latest = Math.max(latest, snapshots[i].number);
            }
        }
        return latest;
    }

    private boolean isOrigin(int snapshot) {
        for (int i = 0; i < MOST_DATASETS; i++) {
            if (datasets[i].number != 0 && datasets[i].origin == snapshot) {
                return true;
            }
        }
        return false;
    }

    /** The number of the first wrong word of the line that is being read, -1 when there is none. */
    private int firstWrongWord(Call call) {
        int wanted = Math.min(call.wants.length(), Script.MOST_GIVEN);
        for (int i = 0; i < wanted; i++) {
            if (!script.nextWord()) {
                return i + 1;
            }
            boolean isRead = i > 0 && script.isWay() ? readWay((int) script.given[0]) : script.readNumber();
            if (!isRead || !script.give(i, call.wants.charAt(i))) {
                return i + 1;
            }
        }
        return script.nextWord() ? wanted + 1 : -1;
    }

    /** Takes the word that is a WAY for the NODE that it leads to; whether the word is one. */
    private boolean readWay(int t) {
        Tree tree = treeOf(t);
        int here = tree == null ? 0 : ROOT;
        for (int i = 0; i < Script.MOST_TAPE && script.isWayOn(); i++) {
            int name = script.nextOfWay();
            if (name < 0) {
                return false;
            }
            Node node = nodeOf(tree, here);
            here = node == null ? 0 : node.meaning(name);
        }
        script.number = here;
        return true;
    }

    private long answerOf(Call call, long[] given) {
        int a = (int) given[0];
        int b = (int) given[1];
        int c = (int) given[2];
        int d = (int) given[3];
        int e = (int) given[4];
        switch (call) {
            case MAKE: return make(a, b, c, d);
            case STEP: return step(a);
            case MAKE_LINK: return makeLink(a, b, c, d == 1);
            case WALK: return walk(a, b, c == 1);
            case LINKED: return linked(a, b, c);
            case FIND: return find(a, b, c);
            case WRITE: return write(a, b, c, given[3], e);
            case READ: return read(a, b, c);
            case CUT: return cut(a, b, c);
            case LINK: return link(a, b, c, d);
            case UNLINK: return unlink(a, b, c);
            case RENAME: return rename(a, b, c, d, e);
            case ABOUT: return about(a, b, c);
            case ENTRY: return entry(a, b, c);
            case OWN: return own(a, b, c);
            case RIGHTS: return rights(a, b, c);
            case ATTRIBUTE: return attribute(a, b, c, given[3], e == 1);
            case ATTRIBUTE_OF: return attributeOf(a, b, c);
            case KEY: return key(a, b, c);
            case AS: return as(a);
            case USAGE: return usage(a, b);
            case LIMIT: return limit(a, b, c);
            case LOCK: return lock(a, b, c, d);
            case LOCKED: return locked(a, b);
            case OPEN: return open(a, b);
            case CLOSE: return close(a);
            case HANDLE: return handle(a, b);
            case SNAPSHOT: return snapshot(a);
            case CLONE: return clone(a);
            case BACK: return back(a, b);
            case DESTROY: return destroy(a);
            case HOLD: return hold(a, b == 1);
            case QUOTA: return quota(a, b);
            case HELD: return held(a, b == 1);
            case TOLD: return told(a, b);
            case DIFFERS: return differs(a, b, c);
            case SEND: return send(a, b);
            case RECEIVE: return receive(a);
            case COMMIT: return commit();
            case SYNC: return sync();
            case CRASH: return crash(a);
            case SPOIL: return spoil(a, b, c);
            case LOSE: return lose(a);
            case BRING: return bring(a, b == 1);
            case SCRUB: return scrub(a == 1);
            case DISK: return disk(a);
            default: return oddities();
        }
    }

    /** The calls that a line of a SCRIPT can name; what each wants: i an int, l a long, t a truth. */
    private enum Call {
        MAKE("make", "iiii"),
        STEP("step", "i"),
        MAKE_LINK("makeLink", "iiit"),
        WALK("walk", "iit"),
        LINKED("linked", "iii"),
        FIND("find", "iii"),
        WRITE("write", "iiili"),
        READ("read", "iii"),
        CUT("cut", "iii"),
        LINK("link", "iiii"),
        UNLINK("unlink", "iii"),
        RENAME("rename", "iiiii"),
        ABOUT("about", "iii"),
        ENTRY("entry", "iii"),
        OWN("own", "iii"),
        RIGHTS("rights", "iii"),
        ATTRIBUTE("attribute", "iiilt"),
        ATTRIBUTE_OF("attributeOf", "iii"),
        KEY("key", "iii"),
        AS("as", "i"),
        USAGE("usage", "ii"),
        LIMIT("limit", "iii"),
        LOCK("lock", "iiii"),
        LOCKED("locked", "ii"),
        OPEN("open", "ii"),
        CLOSE("close", "i"),
        HANDLE("handle", "ii"),
        SNAPSHOT("snapshot", "i"),
        CLONE("clone", "i"),
        BACK("back", "ii"),
        DESTROY("destroy", "i"),
        HOLD("hold", "it"),
        QUOTA("quota", "ii"),
        HELD("held", "it"),
        TOLD("told", "ii"),
        DIFFERS("differs", "iii"),
        SEND("send", "ii"),
        RECEIVE("receive", "i"),
        COMMIT("commit", ""),
        SYNC("sync", ""),
        CRASH("crash", "i"),
        SPOIL("spoil", "iii"),
        LOSE("lose", "i"),
        BRING("bring", "it"),
        SCRUB("scrub", "t"),
        DISK("disk", "i"),
        ODDITIES("oddities", "");

        final String word;
        final String wants;

        Call(String word, String wants) {
            this.word = word;
            this.wants = wants;
        }
    }

    /** The rows in which the bytes of BLOCKS lie; row 0 is never taken: it stands for a HOLE and is all 0. */
    private static final class Rows {
        // Three times 400 may lie in DATASETS and SNAPSHOTS, in what is put down and in the STREAM,
        // and 400 more come before the old ones go when a STREAM is received.
        static final int MOST_ROWS = 1701;

        final byte[] bytes = new byte[MOST_ROWS * PIECE];
        final int[] inTrees = new int[MOST_ROWS];
        final int[] inAside = new int[MOST_ROWS];
        final boolean[] taken = new boolean[MOST_ROWS];
        final int[] talliedTrees = new int[MOST_ROWS];
        final int[] talliedAside = new int[MOST_ROWS];
        int sumsThatDoNotFit;
        int held;
        int latest;

        boolean isAlone(int row) {
            return row > 0 && row < MOST_ROWS && inTrees[row] == 1;
        }

        /** A new row for one TREE of a DATASET, with the bytes of another one. */
        int take(int from) {
            if (from < 0 || from >= MOST_ROWS) {
                return 0;
            }
            for (int i = 1; i < MOST_ROWS; i++) {
                latest = latest + 1 < MOST_ROWS ? latest + 1 : 1;
                if (!taken[latest]) {
                    taken[latest] = true;
                    inTrees[latest] = 1;
                    held++;
                    System.arraycopy(bytes, from * PIECE, bytes, latest * PIECE, PIECE);
                    return latest;
                }
            }
            return 0;
        }

        void share(int row, boolean aside) {
            if (row < 1 || row >= MOST_ROWS) {
                return;
            }
            if (aside) {
                inAside[row]++;
            } else {
                held += inTrees[row] == 0 ? 1 : 0;
                inTrees[row]++;
            }
        }

        void letGo(int row, boolean aside) {
            if (row < 1 || row >= MOST_ROWS) {
                return;
            }
            if (aside) {
                inAside[row]--;
            } else {
                inTrees[row]--;
                held -= inTrees[row] == 0 ? 1 : 0;
            }
            taken[row] = inTrees[row] > 0 || inAside[row] > 0;
        }

        int at(int row, int i) {
            return row > 0 && row < MOST_ROWS && i >= 0 && i < PIECE ? bytes[row * PIECE + i] & 255 : 0;
        }

        void put(int row, int i, int b) {
            if (row > 0 && row < MOST_ROWS && i >= 0 && i < PIECE) {
                bytes[row * PIECE + i] = (byte) b;
            }
        }

        void blankFrom(int row, int from) {
            for (int i = Math.max(0, from); row > 0 && row < MOST_ROWS && i < PIECE; i++) {
                bytes[row * PIECE + i] = 0;
            }
        }

        boolean areAs(int one, int two) {
            if (one < 0 || two < 0 || one >= MOST_ROWS || two >= MOST_ROWS) {
                return false;
            }
            for (int i = 0; one != two && i < PIECE; i++) {
                if (bytes[one * PIECE + i] != bytes[two * PIECE + i]) {
                    return false;
                }
            }
            return true;
        }

        void beginTally() {
            sumsThatDoNotFit = 0;
            for (int i = 0; i < MOST_ROWS; i++) {
                talliedTrees[i] = 0;
                talliedAside[i] = 0;
            }
        }

        void tally(int row, boolean aside) {
            if (row < 1 || row >= MOST_ROWS) {
                sumsThatDoNotFit++;
            } else if (aside) {
                talliedAside[row]++;
            } else {
                talliedTrees[row]++;
            }
        }

        int countOddities() {
            int odd = sumsThatDoNotFit;
            int sum = 0;
            for (int i = 0; i < MOST_ROWS; i++) {
                odd += talliedTrees[i] == inTrees[i] && talliedAside[i] == inAside[i] ? 0 : 1;
                odd += taken[i] == (talliedTrees[i] > 0 || talliedAside[i] > 0) ? 0 : 1;
                sum += talliedTrees[i] > 0 ? 1 : 0;
            }
            return sum == held ? odd : odd + 1;
        }
    }

    /** A NODE, or (of kind 0) a number that no NODE has. */
    private static final class Node {
        int kind;
        int length;
        int owner;
        int rights;
        int above;
        int uses;
        int count;
        final int[] names = new int[MOST_ENTRIES];
        final int[] means = new int[MOST_ENTRIES];
        int blocks;
        final int[] pieces = new int[MOST_PIECES];
        int keyCount;
        final int[] keys = new int[MOST_KEYS];
        final long[] values = new long[MOST_KEYS];
        boolean fromRoot;
        final int[] steps = new int[MOST_STEPS];

        void begin(int newKind, int newOwner) {
            kind = newKind;
            owner = newOwner;
            rights = FIRST_RIGHTS;
            length = 0;
            above = 0;
            uses = 0;
            count = 0;
            keyCount = 0;
            fromRoot = false;
        }

        boolean isUnused() {
            return kind == FILE && uses == 0;
        }

        void leadTo(Path path, boolean beginsAtRoot) {
            length = path.count;
            fromRoot = beginsAtRoot;
            System.arraycopy(path.steps, 0, steps, 0, MOST_STEPS);
        }

        /** How many NAMES are less than this one. */
        int placeOf(int name) {
            int place = 0;
            while (place < count && names[place] < name) {
                place++;
            }
            return place;
        }

        int meaning(int name) {
            int place = placeOf(name);
            return place < count && names[place] == name ? means[place] : 0;
        }

        void enter(int name, int node) {
            if (count >= MOST_ENTRIES) {
                return;
            }
            int place = placeOf(name);
            for (int i = count; i > place; i--) {
                names[i] = names[i - 1];
                means[i] = means[i - 1];
            }
            names[place] = name;
            means[place] = node;
            count++;
        }

        void strike(int name) {
            int place = placeOf(name);
            if (place >= count || names[place] != name) {
                return;
            }
            count--;
            for (int i = place; i < count; i++) {
                names[i] = names[i + 1];
                means[i] = means[i + 1];
            }
        }

        int placeOfKey(int key) {
            int place = 0;
            while (place < keyCount && keys[place] < key) {
                place++;
            }
            return place;
        }

        boolean hasKey(int key) {
            int place = placeOfKey(key);
            return place < keyCount && keys[place] == key;
        }

        long valueOf(int key) {
            return hasKey(key) ? values[placeOfKey(key)] : 0;
        }

        void setKey(int key, long v) {
            int place = placeOfKey(key);
            if (!hasKey(key)) {
                if (keyCount >= MOST_KEYS) {
                    return;
                }
                for (int i = keyCount; i > place; i--) {
                    keys[i] = keys[i - 1];
                    values[i] = values[i - 1];
                }
                keyCount++;
            }
            keys[place] = key;
            values[place] = v;
        }

        void strikeKey(int key) {
            if (!hasKey(key)) {
                return;
            }
            keyCount--;
            for (int i = placeOfKey(key); i < keyCount; i++) {
                keys[i] = keys[i + 1];
                values[i] = values[i + 1];
            }
        }

        /** Makes a PIECE a new BLOCK with the bytes that it has. */
        void renew(int piece, Rows rows) {
            if (piece < 0 || piece >= MOST_PIECES) {
                return;
            }
            int old = pieces[piece];
            pieces[piece] = rows.take(old);
            rows.letGo(old, false);
            blocks += old == 0 ? 1 : 0;
        }

        void put(int at, int b, Rows rows) {
            if (at >= 0 && at < MOST_BYTES) {
                rows.put(pieces[at / PIECE], at % PIECE, b);
            }
        }

        void letGoFrom(int piece, Rows rows, boolean aside) {
            for (int p = Math.max(0, piece); blocks > 0 && p < MOST_PIECES; p++) {
                if (pieces[p] != 0) {
                    rows.letGo(pieces[p], aside);
                    pieces[p] = 0;
                    blocks--;
                }
            }
        }

        void drop(Rows rows, boolean aside) {
            letGoFrom(0, rows, aside);
            begin(0, 0);
        }

        void copyBlocks(Node other, Rows rows, boolean aside) {
            for (int p = 0; (blocks > 0 || other.blocks > 0) && p < MOST_PIECES; p++) {
                int old = pieces[p];
                int next = other.pieces[p];
                if (old != next) {
                    rows.share(next, aside);
                    rows.letGo(old, aside);
                    pieces[p] = next;
                }
            }
            blocks = other.blocks;
        }

        void copyAllButBlocks(Node other) {
            kind = other.kind;
            length = other.length;
            owner = other.owner;
            rights = other.rights;
            above = other.above;
            uses = other.uses;
            count = other.count;
            keyCount = other.keyCount;
            fromRoot = other.fromRoot;
            if (kind == DIRECTORY) {
                System.arraycopy(other.names, 0, names, 0, MOST_ENTRIES);
                System.arraycopy(other.means, 0, means, 0, MOST_ENTRIES);
            }
            if (kind == LINK) {
                System.arraycopy(other.steps, 0, steps, 0, MOST_STEPS);
            }
            for (int i = 0; i < keyCount; i++) {
                keys[i] = other.keys[i];
                values[i] = other.values[i];
            }
        }

        /** Whether a PIECE stays as it is where this NODE becomes another one by a STREAM. */
        boolean keeps(int piece, Node next, Rows rows) {
            if (kind != FILE || uses == 0 || next.kind != FILE) {
                return false;
            }
            boolean isHole = pieces[piece] == 0;
            return isHole == (next.pieces[piece] == 0) && rows.areAs(pieces[piece], next.pieces[piece]);
        }

        boolean isAs(Node other, Rows rows) {
            if (kind != other.kind || kind == 0) {
                return kind == other.kind;
            }
            if (length != other.length || owner != other.owner || rights != other.rights) {
                return false;
            }
            for (int p = 0; (blocks > 0 || other.blocks > 0) && p < MOST_PIECES; p++) {
                if (!rows.areAs(pieces[p], other.pieces[p])) {
                    return false;
                }
            }
            return hasEntriesOf(other) && hasKeysOf(other) && (kind != LINK || hasPathOf(other));
        }

        private boolean hasEntriesOf(Node other) {
            boolean same = count == other.count;
            for (int i = 0; same && i < count; i++) {
                same = names[i] == other.names[i] && means[i] == other.means[i];
            }
            return same;
        }

        private boolean hasKeysOf(Node other) {
            boolean same = keyCount == other.keyCount;
            for (int i = 0; same && i < keyCount; i++) {
                same = keys[i] == other.keys[i] && values[i] == other.values[i];
            }
            return same;
        }

        private boolean hasPathOf(Node other) {
            boolean same = fromRoot == other.fromRoot;
            for (int i = 0; same && i < length && i < MOST_STEPS; i++) {
                same = steps[i] == other.steps[i];
            }
            return same;
        }
    }

    /** The NODES of a TREE; aside are the TREES that hold no room: what was put down, and the STREAM's. */
    private static final class Tree {
        final Node[] nodes = new Node[MOST_NODES + 1];
        final Rows rows;
        final boolean aside;

        Tree(Rows rows, boolean aside) {
            this.rows = rows;
            this.aside = aside;
            for (int n = 0; n <= MOST_NODES; n++) {
                nodes[n] = new Node();
            }
        }

        Node nodeAt(int number) {
            return number < 1 || number > MOST_NODES || nodes[number].kind == 0 ? null : nodes[number];
        }

        int leastFree() {
            for (int n = 1; n <= MOST_NODES; n++) {
                if (nodes[n].kind == 0) {
                    return n;
                }
            }
            return 0;
        }

        int countNodes() {
            int count = 0;
            for (int n = 1; n <= MOST_NODES; n++) {
                count += nodes[n].kind == 0 ? 0 : 1;
            }
            return count;
        }

        int blocks() {
            int count = 0;
            for (int n = 1; n <= MOST_NODES; n++) {
                count += nodes[n].blocks;
            }
            return count;
        }

        int blocksUsed() {
            int count = 0;
            for (int n = 1; n <= MOST_NODES; n++) {
                count += nodes[n].isUnused() ? 0 : nodes[n].blocks;
            }
            return count;
        }

        int blocksOf(int user) {
            int count = 0;
            for (int n = 1; n <= MOST_NODES; n++) {
                count += nodes[n].owner == user ? nodes[n].blocks : 0;
            }
            return count;
        }

        int blocksAlone() {
            int count = 0;
            for (int n = 1; n <= MOST_NODES; n++) {
                for (int p = 0; nodes[n].blocks > 0 && p < MOST_PIECES; p++) {
                    count += rows.isAlone(nodes[n].pieces[p]) ? 1 : 0;
                }
            }
            return count;
        }

        boolean liesWithin(int directory, int top) {
            int here = directory;
            for (int i = 0; i <= MOST_NODES && here != top; i++) {
                Node node = nodeAt(here);
                if (node == null) {
                    return false;
                }
                here = node.above;
            }
            return here == top;
        }

        void copyFrom(Tree other) {
            for (int n = 1; n <= MOST_NODES; n++) {
                nodes[n].copyBlocks(other.nodes[n], rows, aside);
                nodes[n].copyAllButBlocks(other.nodes[n]);
            }
        }

        void clear() {
            for (int n = 1; n <= MOST_NODES; n++) {
                nodes[n].drop(rows, aside);
            }
        }

        void dropUnused() {
            for (int n = 1; n <= MOST_NODES; n++) {
                if (nodes[n].isUnused()) {
                    nodes[n].drop(rows, aside);
                }
            }
        }

        /** Whether this is the same as a TREE without unused FILES, its own unused FILES left out. */
        boolean isUsedAs(Tree other) {
            boolean same = true;
            for (int n = 1; same && n <= MOST_NODES; n++) {
                Node node = nodes[n];
                same = node.isUnused() ? other.nodes[n].kind == 0 : node.isAs(other.nodes[n], rows);
            }
            return same;
        }

        int newBlocks(Tree next) {
            int count = 0;
            for (int n = 1; n <= MOST_NODES; n++) {
                Node to = next.nodes[n];
                for (int p = 0; to.blocks > 0 && p < MOST_PIECES; p++) {
                    count += to.pieces[p] != 0 && !nodes[n].keeps(p, to, rows) ? 1 : 0;
                }
            }
            return count;
        }

        /** How many BLOCKS no TREE has any more when this one has become another by a STREAM. */
        int loosedBlocks(Tree next) {
            int count = 0;
            for (int n = 1; n <= MOST_NODES; n++) {
                Node node = nodes[n];
                for (int p = 0; node.blocks > 0 && p < MOST_PIECES; p++) {
                    count += rows.isAlone(node.pieces[p]) && !node.keeps(p, next.nodes[n], rows) ? 1 : 0;
                }
            }
            return count;
        }

        void become(Tree next) {
            for (int n = 1; n <= MOST_NODES; n++) {
                Node node = nodes[n];
                Node to = next.nodes[n];
                for (int p = 0; (node.blocks > 0 || to.blocks > 0) && p < MOST_PIECES; p++) {
                    if (!node.keeps(p, to, rows)) {
                        int old = node.pieces[p];
                        node.pieces[p] = to.pieces[p] == 0 ? 0 : rows.take(to.pieces[p]);
                        rows.letGo(old, aside);
                    }
                }
                node.blocks = to.blocks;
                node.copyAllButBlocks(to);
            }
        }

        void tally() {
            for (int n = 1; n <= MOST_NODES; n++) {
                int count = 0;
                for (int p = 0; nodes[n].kind != 0 && p < MOST_PIECES; p++) {
                    if (nodes[n].pieces[p] != 0) {
                        rows.tally(nodes[n].pieces[p], aside);
                        count++;
                    }
                }
                rows.sumsThatDoNotFit += count == nodes[n].blocks ? 0 : 1;
            }
        }
    }

    /** A DATASET, or (its number being 0) room for one. */
    private static final class Dataset {
        final Tree tree;
        final Tree kept;
        final int[] limits = new int[USERS];
        int number;
        int origin;
        int quota;
        boolean changed;

        Dataset(Rows rows) {
            tree = new Tree(rows, false);
            kept = new Tree(rows, true);
        }

        void begin(int newNumber, int newOrigin) {
            number = newNumber;
            origin = newOrigin;
            quota = MOST_BLOCKS;
            for (int user = 0; user < USERS; user++) {
                limits[user] = MOST_BLOCKS;
            }
        }

        void leave() {
            number = 0;
            changed = false;
            tree.clear();
            kept.clear();
        }

        boolean hasRoom(int user, int added) {
            boolean inLimit = user >= 0 && user < USERS && tree.blocksOf(user) + added <= limits[user];
            return inLimit && tree.blocks() + added <= quota;
        }
    }

    /** A SNAPSHOT, or (its number being 0) room for one. */
    private static final class Snapshot {
        final Tree tree;
        int number;
        int dataset;
        boolean onHold;

        Snapshot(Rows rows) {
            tree = new Tree(rows, false);
        }

        void begin(int newNumber, Dataset source) {
            number = newNumber;
            dataset = source.number;
            onHold = false;
            tree.copyFrom(source.tree);
        }

        void leave() {
            number = 0;
            dataset = 0;
            tree.clear();
        }
    }

    /** A HANDLE, open when it has a DATASET. */
    private static final class Handle {
        final byte[] locks = new byte[MOST_BYTES];
        Dataset dataset;
        int node;

        void begin(Dataset newDataset, int newNode) {
            dataset = newDataset;
            node = newNode;
            mark(0, MOST_BYTES - 1, NOT_LOCKED);
        }

        boolean isFor(Dataset asked, int number) {
            return dataset != null && dataset == asked && node == number;
        }

        boolean bars(int from, int to, int kind) {
            for (int i = Math.max(0, from); kind != NOT_LOCKED && i <= to && i < MOST_BYTES; i++) {
                if (locks[i] == ALONE || locks[i] != NOT_LOCKED && kind == ALONE) {
                    return true;
                }
            }
            return false;
        }

        void mark(int from, int to, int kind) {
            for (int i = Math.max(0, from); i <= to && i < MOST_BYTES; i++) {
                locks[i] = (byte) kind;
            }
        }
    }

    /** The PATH under way, and the STEPS that are still to be gone in a walk, the next one last. */
    private static final class Path {
        final int[] steps = new int[MOST_STEPS];
        final int[] ahead = new int[MOST_WALKED];
        int count;
        int left;

        void empty() {
            count = 0;
        }

        boolean add(int step) {
            if (count >= MOST_STEPS) {
                return false;
            }
            steps[count] = step;
            count++;
            return true;
        }

        void setOut() {
            left = 0;
            pushBefore(steps, count);
        }

        void goBy(Node link) {
            pushBefore(link.steps, link.length);
        }

        int next() {
            if (left < 1) {
                return 0;
            }
            left--;
            return ahead[left];
        }

        private void pushBefore(int[] more, int length) {
            for (int i = Math.min(length, more.length) - 1; i >= 0 && left < MOST_WALKED; i--) {
                ahead[left] = more[i];
                left++;
            }
        }
    }

    /** The disks: which one is SUSPECT (0 for none), and whether that one is lost. */
    private static final class Disks {
        final int count;
        int suspect;
        boolean lost;

        Disks(int count) {
            this.count = count;
        }

        boolean has(int disk) {
            return disk >= 1 && disk <= count;
        }

        boolean suspected(int disk, boolean isLost) {
            if (lost || suspect != 0 && suspect != disk) {
                return false;
            }
            suspect = disk;
            lost = isLost;
            return true;
        }

        boolean broughtBack(int disk) {
            boolean was = lost && suspect == disk;
            lost = lost && !was;
            return was;
        }

        int mended() {
            int was = suspect;
            suspect = 0;
            return was;
        }

        int stateOf(int disk) {
            return disk != suspect ? 0 : lost ? 2 : 1;
        }
    }

    /** The TAPE, OUT, and how far the TAPE's lines and words are read. */
    private static final class Script {
        static final int MOST_TAPE = 8000;
        static final int MOST_GIVEN = 5;
        // A line that is done has at least five bytes, and an answer at most twenty.
        private static final int MOST_DONE = 1600;
        private static final int MOST_OUT = 21 * MOST_DONE;
        private static final int MOST_DIGITS = 18;
        private static final int MOST_NAME_DIGITS = 7;
        private static final Call[] CALLS = Call.values();

        final byte[] tape = new byte[MOST_TAPE];
        int tapeLength;
        final byte[] out = new byte[MOST_OUT];
        int outLength;
        final long[] answers = new long[MOST_DONE];
        int done;
        final long[] given = new long[MOST_GIVEN];
        private final byte[] digits = new byte[20];
        long number;
        int wrong = -2;
        private int nextLineAt;
        private int lineEnd;
        private int wordAt;
        private int wordEnd;
        private int wayAt;

        boolean hasRoom() {
            return tapeLength + 20 <= MOST_TAPE;
        }

        void append(int four) {
            for (int shift = 24; shift >= 0 && tapeLength < MOST_TAPE; shift -= 8) {
                tape[tapeLength] = (byte) (four >> shift);
                tapeLength++;
            }
        }

        void begin() {
            outLength = 0;
            done = 0;
            wrong = -2;
            nextLineAt = 0;
        }

        boolean nextLine() {
            if (nextLineAt >= tapeLength) {
                return false;
            }
            wordEnd = nextLineAt;
            lineEnd = nextLineAt;
            while (lineEnd < tapeLength && tape[lineEnd] != '\n') {
                lineEnd++;
            }
            nextLineAt = lineEnd + 1;
            return true;
        }

        boolean nextWord() {
            wordAt = wordEnd;
            while (wordAt < lineEnd && tape[wordAt] == ' ') {
                wordAt++;
            }
            wordEnd = wordAt;
            while (wordEnd < lineEnd && tape[wordEnd] != ' ') {
                wordEnd++;
            }
            wayAt = wordAt;
            return wordAt < wordEnd;
        }

        Call calledFor() {
            for (int i = 0; i < CALLS.length; i++) {
                if (isWord(CALLS[i].word)) {
                    return CALLS[i];
                }
            }
            return null;
        }

        private boolean isWord(String text) {
            boolean same = text.length() == wordEnd - wordAt;
            for (int i = 0; same && i < text.length(); i++) {
                same = tape[wordAt + i] == text.charAt(i);
            }
            return same;
        }

        /** The value of the digits between two places; -1 when these are other than so many digits. */
        private long valueOf(int from, int to, int most) {
            if (to <= from || to - from > most) {
                return -1;
            }
            long value = 0;
            for (int i = from; i < to; i++) {
                if (tape[i] < '0' || tape[i] > '9') {
                    return -1;
                }
                value = value * 10 + (tape[i] - '0');
            }
            return value;
        }

        boolean readNumber() {
            boolean isMinus = tape[wordAt] == '-';
            boolean isAnswer = tape[wordAt] == '@';
            long value = valueOf(isMinus || isAnswer ? wordAt + 1 : wordAt, wordEnd, MOST_DIGITS);
            if (value < 0 || isAnswer && value >= done) {
                return false;
            }
            number = isAnswer ? answers[(int) value] : isMinus ? -value : value;
            return true;
        }

        boolean isWay() {
            return tape[wordAt] == '/';
        }

        /** Whether the WAY has one more NAME; of / alone there is none. */
        boolean isWayOn() {
            return wayAt < wordEnd && wordEnd - wordAt > 1;
        }

        int nextOfWay() {
            int from = wayAt + 1;
            wayAt = from;
            while (wayAt < wordEnd && tape[wayAt] != '/') {
                wayAt++;
            }
            return (int) valueOf(from, wayAt, MOST_NAME_DIGITS);
        }

        /** Gives the number that was read to the call; false when it is none of those that are wanted. */
        boolean give(int i, char wanted) {
            boolean isInt = number == (int) number;
            boolean isTruth = number == 0 || number == 1;
            if (i < 0 || i >= MOST_GIVEN || wanted == 'i' && !isInt || wanted == 't' && !isTruth) {
                return false;
            }
            given[i] = number;
            return true;
        }

        void note(long answer) {
            if (done < MOST_DONE) {
                answers[done] = answer;
                done++;
            }
            int count = 0;
            // Counted below 0, where the least long has its digits too.
            long rest = answer > 0 ? -answer : answer;
            do {
                digits[count] = (byte) ('0' - rest % 10);
                rest /= 10;
                count++;
            } while (rest != 0 && count < digits.length);
            if (answer < 0) {
                print('-');
            }
            for (int i = count - 1; i >= 0; i--) {
                print(digits[i]);
            }
            print('\n');
        }

        private void print(int b) {
            if (outLength < MOST_OUT) {
                out[outLength] = (byte) b;
                outLength++;
            }
        }
    }
}
