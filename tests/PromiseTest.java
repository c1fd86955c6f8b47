/** For each promise of the document: ordinary inputs, its edges, and wrong inputs; no object has over 512 calls. */
public final class PromiseTest {
    private static int wrong;
    private static int asked;
    private static int promise;

    public static void main(String[] args) {
        newObject();
        make();
        step();
        makeLink();
        walk();
        linked();
        find();
        write();
        writeRoom();
        read();
        cut();
        link();
        unlink();
        rename();
        renameRefused();
        about();
        entry();
        own();
        rights();
        attribute();
        attributeOfAndKey();
        as();
        usageAndLimit();
        locks();
        openAndClose();
        snapshot();
        cloned();
        back();
        destroy();
        hold();
        quota();
        held();
        told();
        differs();
        send();
        receive();
        receiveRoom();
        putDown();
        acts();
        crash();
        keptAtHundred();
        disks();
        tape();
        scripts();
        wrongWords();
        ways();
        oddities();
        lastNode();
        deepest();
        System.out.println("PromiseTest: " + asked + " answers, " + wrong + " not as due");
        System.exit(wrong == 0 ? 0 : 1);
    }

    private static void due(String call, long got, long want) {
        asked++;
        if (got != want) {
            wrong++;
            System.out.println("promise " + promise + ": " + call + " answered " + got + ", due is " + want);
        }
    }

    private static PoolHouse pool(int number) {
        promise = number;
        return new PoolHouse(4);
    }

    /** FILES 2 .. of so many NAMES from 101 on in the ROOT. */
    private static void files(PoolHouse x, int count) {
        for (int i = 0; i < count; i++) {
            due("make", x.make(1, 1, 101 + i, 1), 2 + i);
        }
    }

    /** FILES with so many BLOCKS together, two with each call, 36 in each FILE from number 2 on. */
    private static void fill(PoolHouse x, int blocks) {
        files(x, (blocks + 35) / 36);
        for (int i = 0; i < blocks; i += 2) {
            int p = i % 36;
            due("fill", x.write(1, 2 + i / 36, p * 60 + 59, 7, i + 1 < blocks ? 2 : 1) > 0 ? 1 : 0, 1);
        }
        for (int i = 0; i < blocks / 36; i++) {
            x.cut(1, 2 + i, 2160);
        }
        due("filled", x.held(1, false), blocks);
    }

    private static void feed(PoolHouse x, String text) {
        int before = x.end(0);
        x.end(0);
        due("nothing on the tape", before, 0);
        int[] w = new int[(text.length() + 19) / 20 * 5];
        for (int i = 0; i < text.length(); i++) {
            w[i / 4] |= text.charAt(i) << 24 - i % 4 * 8;
        }
        for (int i = 0; i < w.length; i += 5) {
            x.feed(w[i], w[i + 1], w[i + 2], w[i + 3], w[i + 4]);
        }
        x.end(text.length());
    }

    private static void script(PoolHouse x, String text, int answer, int line, String out) {
        feed(x, text);
        String shown = text.replace('\n', '|');
        due("run() of " + shown, x.run(), answer);
        due("line() of " + shown, x.line(), line);
        StringBuilder got = new StringBuilder();
        for (int i = 0; x.out(i) != -2; i++) {
            got.append((char) x.out(i));
        }
        asked++;
        if (!got.toString().equals(out)) {
            wrong++;
            System.out.println("OUT of " + shown + " is " + got.toString().replace('\n', '|')
                + ", due is " + out.replace('\n', '|'));
        }
    }

    private static void newObject() {
        promise = 1;
        int[] told = {Integer.MIN_VALUE, -1, 3, 4, 5, 6, 7, 8, Integer.MAX_VALUE};
        int[] due = {4, 4, 4, 4, 5, 6, 7, 7, 7};
        for (int i = 0; i < told.length; i++) {
            PoolHouse x = new PoolHouse(told[i]);
            due("disk(last)", x.disk(due[i]), 0);
            due("disk(behind)", x.disk(due[i] + 1), -1);
            due("told nodes", x.told(1, 3), 1);
            due("root kind", x.about(1, 1, 0), 2);
            due("root size", x.about(1, 1, 1), 0);
            due("origin", x.told(1, 0), 0);
            due("crash", x.crash(0), 0);
            due("kept", x.told(1, 3), 1);
            due("other", x.told(2, 3), -1);
        }
    }

    private static void make() {
        PoolHouse x = pool(2);
        due("file", x.make(1, 1, 1000000, 1), 2);
        due("dir", x.make(1, 1, 1, 2), 3);
        due("kind 0", x.make(1, 1, 2, 0), -2);
        due("kind 3", x.make(1, 1, 2, 3), -2);
        due("name 0", x.make(1, 1, 0, 1), -2);
        due("name big", x.make(1, 1, 1000001, 1), -2);
        due("no tree", x.make(0, 1, 0, 1), -1);
        due("no node", x.make(1, 4, 0, 1), -1);
        due("node 0", x.make(1, 0, 0, 1), -1);
        due("node 37", x.make(1, 37, 0, 1), -1);
        due("in a file, bad name", x.make(1, 2, 0, 1), -2);
        due("in a file", x.make(1, 2, 5, 1), -3);
        due("there", x.make(1, 1, 1, 1), -3);
        x.snapshot(1);
        due("snapshot's", x.make(-1, 1, 5, 1), -3);
        due("snapshot's node", x.make(-1, 9, 5, 1), -1);
        due("snapshot's name", x.make(-1, 1, 0, 1), -2);
        x.as(2);
        due("may not", x.make(1, 1, 5, 1), -5);
        due("may not, though there", x.make(1, 1, 1, 1), -5);
        x.as(0);
        x.rights(1, 1, 2);
        x.as(2);
        due("write alone", x.make(1, 1, 5, 1), -5);
        x.as(0);
        x.rights(1, 1, 3);
        x.as(2);
        due("write and enter", x.make(1, 1, 5, 1), 4);
        due("owner", x.about(1, 4, 5), 2);
        due("rights", x.about(1, 4, 6), 61);
        PoolHouse y = pool(2);
        for (int i = 0; i < 24; i++) {
            due("entry " + i, y.make(1, 1, 50 - i, i == 0 ? 2 : 1), 2 + i);
        }
        due("25th", y.make(1, 1, 900, 1), -4);
        due("25th there", y.make(1, 1, 50, 1), -3);
        for (int i = 0; i < 11; i++) {
            due("node " + i, y.make(1, 2, 1 + i, 1), 26 + i);
        }
        due("37th node", y.make(1, 2, 900, 2), -4);
        due("gone", y.unlink(1, 1, 45), 7);
        due("least", y.make(1, 2, 900, 2), 7);
    }

    private static void step() {
        PoolHouse x = pool(3);
        for (int i = 1; i <= 8; i++) {
            due("step", x.step(i == 3 ? 0 : i * 125000), i);
        }
        due("ninth", x.step(1), -4);
        due("ninth wrong", x.step(1000001), -2);
        due("below", x.step(-2), -2);
        due("empty", x.step(-1), 0);
        due("first", x.step(1000000), 1);
        due("makeLink no tree", x.makeLink(3, 1, 1, true), -1);
        due("stays", x.step(1), 2);
        due("makeLink no name", x.makeLink(1, 1, 0, true), -2);
        due("stays", x.step(1), 3);
        due("walk no node", x.walk(1, 9, true), -1);
        due("stays", x.step(1), 4);
        due("walk", x.walk(1, 1, true), -1);
        due("empty", x.step(0), 1);
        x.crash(0);
        due("empty by a crash", x.step(0), 1);
        due("crash refused", x.crash(5), -2);
        due("stays", x.step(0), 2);
    }

    private static void makeLink() {
        PoolHouse x = pool(4);
        due("no path", x.makeLink(1, 1, 5, true), -2);
        due("no path, no node", x.makeLink(1, 2, 5, true), -1);
        x.step(5);
        due("link", x.makeLink(1, 1, 5, false), 2);
        due("no path now", x.makeLink(1, 1, 6, false), -2);
        due("kind", x.about(1, 2, 0), 3);
        x.step(6);
        due("there", x.makeLink(1, 1, 5, false), -3);
        due("empty", x.step(6), 1);
        due("in a link", x.makeLink(1, 2, 5, false), -3);
        x.step(6);
        x.as(1);
        due("may not", x.makeLink(1, 1, 7, false), -5);
        due("empty", x.step(6), 1);
        x.as(0);
        x.snapshot(1);
        due("snapshot's", x.makeLink(-1, 1, 7, false), -3);
        for (int i = 1; i < 24; i++) {
            x.make(1, 1, 10 + i, 1);
        }
        x.step(6);
        due("25th", x.makeLink(1, 1, 7, false), -4);
        due("empty", x.step(6), 1);
        PoolHouse y = pool(4);
        for (int i = 0; i < 99; i++) {
            y.rights(1, 1, 61);
        }
        y.step(77);
        due("hundredth act", y.makeLink(1, 1, 7, true), 2);
        due("nothing lost", y.crash(1), 0);
        due("path is kept", y.linked(1, 2, 0), 77);
        due("root is kept", y.linked(1, 2, -1), 1);
    }

    private static int walked(PoolHouse x, int t, int dir, boolean follow, int... steps) {
        x.step(-1);
        for (int s : steps) {
            x.step(s);
        }
        return x.walk(t, dir, follow);
    }

    private static void linkTo(PoolHouse x, int dir, int name, boolean fromRoot, int number, int... steps) {
        x.step(-1);
        for (int s : steps) {
            x.step(s);
        }
        due("makeLink", x.makeLink(1, dir, name, fromRoot), number);
    }

    private static void walk() {
        PoolHouse x = pool(5);
        x.make(1, 1, 10, 2);
        x.make(1, 2, 11, 2);
        x.make(1, 3, 12, 1);
        due("down", walked(x, 1, 1, true, 10, 11, 12), 4);
        due("up", walked(x, 1, 3, true, 0), 2);
        due("up from the root", walked(x, 1, 1, true, 0, 0), 1);
        due("up and down", walked(x, 1, 3, true, 0, 0, 10), 2);
        due("from a file", walked(x, 1, 4, true, 0), -3);
        due("behind a file", walked(x, 1, 3, true, 12, 0), -3);
        due("no name", walked(x, 1, 3, true, 13), -1);
        due("empty", x.walk(1, 1, true), -2);
        due("no tree", x.walk(2, 1, true), -1);
        linkTo(x, 3, 20, false, 5, 0, 0);
        linkTo(x, 3, 21, true, 6, 10);
        due("link not followed", walked(x, 1, 3, false, 20), 5);
        due("link followed", walked(x, 1, 3, true, 20), 1);
        due("link within", walked(x, 1, 3, false, 20, 10), 2);
        due("link from the root", walked(x, 1, 3, true, 21), 2);
        due("from a link", walked(x, 1, 5, true, 10), -3);
        linkTo(x, 1, 30, false, 7, 10, 11, 20);
        due("last of all is followed", walked(x, 1, 1, true, 30), 1);
        due("not the last of all", walked(x, 1, 1, false, 30, 10), 2);
        due("only the last is not", walked(x, 1, 1, false, 30), 7);
        for (int i = 0; i < 10; i++) {
            linkTo(x, 1, 40 + i, true, 8 + i, i == 0 ? 10 : 39 + i);
        }
        due("eight links", walked(x, 1, 1, true, 47), 2);
        due("nine links", walked(x, 1, 1, true, 48), -6);
        due("empty behind -6", x.step(1), 1);
        due("eight links and a name", walked(x, 1, 1, false, 47, 11), 3);
        due("eight links, then one not followed", walked(x, 1, 1, false, 47, 11, 21), 6);
        due("eight links, then one followed", walked(x, 1, 1, true, 47, 11, 21), -6);
        due("links in two steps", walked(x, 1, 1, true, 43, 0, 43), 2);
        due("links in two steps, too many", walked(x, 1, 1, true, 43, 0, 44), -6);
        x.snapshot(1);
        x.unlink(1, 3, 12);
        due("in the snapshot", walked(x, -1, 1, true, 10, 11, 12), 4);
        x.rights(1, 2, 62);
        x.as(5);
        due("may enter none of these", walked(x, 1, 1, true, 10, 11), -5);
        due("not even up", walked(x, 1, 1, true, 10, 0), -5);
        due("nor with a wrong name", walked(x, 1, 1, true, 10, 999), -5);
        due("to it", walked(x, 1, 1, true, 10), 2);
        due("beside it", walked(x, 1, 3, true, 0), 2);
    }

    private static void linked() {
        PoolHouse x = pool(6);
        linkTo(x, 1, 5, false, 2, 0, 1000000, 3);
        linkTo(x, 1, 6, true, 3, 1, 2, 3, 4, 5, 6, 7, 8);
        due("begins", x.linked(1, 2, -1), 0);
        due("begins", x.linked(1, 3, -1), 1);
        due("0", x.linked(1, 2, 0), 0);
        due("1", x.linked(1, 2, 1), 1000000);
        due("2", x.linked(1, 2, 2), 3);
        due("3", x.linked(1, 2, 3), -2);
        due("7", x.linked(1, 3, 7), 8);
        due("8", x.linked(1, 3, 8), -2);
        due("-2", x.linked(1, 2, -2), -2);
        due("no link", x.linked(1, 1, -5), -3);
        due("no node", x.linked(1, 4, 0), -1);
        due("no tree", x.linked(-1, 2, 0), -1);
        x.snapshot(1);
        x.unlink(1, 1, 5);
        due("snapshot's", x.linked(-1, 2, 2), 3);
        due("gone", x.linked(1, 2, 2), -1);
    }

    private static void find() {
        PoolHouse x = pool(7);
        x.make(1, 1, 5, 1);
        due("find", x.find(1, 1, 5), 2);
        due("not there", x.find(1, 1, 6), -1);
        due("no name", x.find(1, 2, 0), -2);
        due("no directory", x.find(1, 2, 5), -3);
        due("no node", x.find(1, 3, 0), -1);
        due("no tree", x.find(2, 1, 5), -1);
        x.rights(1, 1, 54);
        x.as(1);
        due("may not", x.find(1, 1, 5), -5);
        due("may not, not there", x.find(1, 1, 6), -5);
        x.as(0);
        due("0 may all", x.find(1, 1, 5), 2);
        x.own(1, 1, 1);
        x.as(1);
        due("owner's bit alone counts", x.find(1, 1, 5), -5);
        x.rights(1, 1, 8);
        due("owner may", x.find(1, 1, 5), 2);
    }

    private static void write() {
        PoolHouse x = pool(8);
        x.make(1, 1, 5, 1);
        due("eight", x.write(1, 2, 56, 0x0102030405060708L, 8), 64);
        for (int i = 0; i < 8; i++) {
            due("byte", x.read(1, 2, 56 + i), i + 1);
        }
        due("before", x.read(1, 2, 55), 0);
        due("lowest", x.write(1, 2, 0, 0x01020304L, 2), 64);
        due("3", x.read(1, 2, 0), 3);
        due("4", x.read(1, 2, 1), 4);
        due("-1", x.write(1, 2, 10, -1, 1), 64);
        due("255", x.read(1, 2, 10), 255);
        due("0", x.read(1, 2, 11), 0);
        due("last", x.write(1, 2, 2152, 9, 8), 2160);
        due("holes", x.about(1, 2, 3), 3);
        due("in a hole", x.read(1, 2, 1000), 0);
        due("behind", x.write(1, 2, 2153, 9, 8), -2);
        due("n 0", x.write(1, 2, 5, 9, 0), -2);
        due("n 9", x.write(1, 2, 5, 9, 9), -2);
        due("at -1", x.write(1, 2, -1, 9, 2), -2);
        due("far", x.write(1, 2, Integer.MAX_VALUE, 9, 8), -2);
        due("no file, far", x.write(1, 1, 2160, 9, 1), -2);
        due("no file", x.write(1, 1, 0, 9, 1), -3);
        due("no node", x.write(1, 3, 0, 9, 0), -1);
        x.snapshot(1);
        due("snapshot's", x.write(-1, 2, 0, 9, 1), -3);
        due("same bytes", x.write(1, 2, 10, 255, 1), 2160);
        due("a new block all the same", x.held(1, true), 1);
        x.as(3);
        due("may not", x.write(1, 2, 0, 9, 1), -5);
        x.as(0);
        x.rights(1, 2, 2);
        x.as(3);
        due("may", x.write(1, 2, 0, 9, 1), 2160);
    }

    private static void writeRoom() {
        PoolHouse x = pool(8);
        fill(x, 400);
        due("more", x.write(1, 13, 2000, 1, 1), -4);
        due("over", x.write(1, 13, 0, 1, 1) > 0 ? 1 : 0, 1);
        x.cut(1, 2, 2100);
        due("399", x.held(0, false), 399);
        due("one more", x.write(1, 13, 2000, 1, 1), 2001);
        x.snapshot(1);
        due("shared", x.write(1, 2, 0, 1, 1), -4);
        due("it is as it was", x.read(1, 2, 0), 0);
        x.cut(1, 2, 2040);
        due("held by the snapshot", x.held(0, false), 400);
        due("shared", x.write(1, 2, 0, 1, 1), -4);
        due("acts", x.commit(), 1);
        PoolHouse y = pool(8);
        files(y, 1);
        y.write(1, 2, 0, 1, 1);
        y.quota(1, 2);
        due("quota", y.write(1, 2, 119, 1, 2), -4);
        due("quota", y.write(1, 2, 59, 1, 2), 61);
        due("quota", y.write(1, 2, 120, 1, 1), -4);
        due("adds none", y.write(1, 2, 59, 1, 2), 61);
    }

    private static void read() {
        PoolHouse x = pool(9);
        x.make(1, 1, 5, 1);
        due("empty", x.read(1, 2, 0), -2);
        x.write(1, 2, 70, 200, 1);
        due("200", x.read(1, 2, 70), 200);
        due("hole", x.read(1, 2, 0), 0);
        due("behind", x.read(1, 2, 71), -2);
        due("before", x.read(1, 2, -1), -2);
        due("no file", x.read(1, 1, -1), -3);
        due("no file", x.read(1, 1, 0), -3);
        due("no node", x.read(1, 3, 0), -1);
        due("no tree", x.read(0, 3, 0), -1);
        x.rights(1, 2, 59);
        x.as(1);
        due("may not", x.read(1, 2, 70), -5);
        due("range first", x.read(1, 2, 71), -2);
        x.as(0);
        x.rights(1, 2, 4);
        x.as(1);
        due("others may", x.read(1, 2, 70), 200);
    }

    private static void cut() {
        PoolHouse x = pool(10);
        x.make(1, 1, 5, 1);
        x.write(1, 2, 0, 0x1111111111111111L, 8);
        x.write(1, 2, 60, 0x2222222222222222L, 8);
        x.write(1, 2, 130, 0x3333333333333333L, 8);
        x.snapshot(1);
        due("longer", x.cut(1, 2, 2160), 138);
        due("the same blocks", x.held(1, true), 0);
        due("0 there", x.read(1, 2, 2159), 0);
        due("back", x.cut(1, 2, 138), 2160);
        due("less, within a block", x.held(1, true), 1);
        due("to a piece's end", x.cut(1, 2, 120), 138);
        due("blocks", x.about(1, 2, 3), 2);
        due("the same blocks", x.held(1, true), 0);
        x.snapshot(1);
        due("within", x.cut(1, 2, 64), 120);
        due("a new block", x.held(1, true), 1);
        x.snapshot(1);
        due("the same length", x.cut(1, 2, 64), 64);
        due("no new block", x.held(1, true), 0);
        due("three", x.read(1, 2, 63), 0x22);
        due("longer", x.cut(1, 2, 100), 64);
        due("cleared", x.read(1, 2, 64), 0);
        due("not the snapshot's", x.read(-1, 2, 64), 0x22);
        due("same length", x.cut(1, 2, 100), 100);
        due("to a hole", x.cut(1, 2, 0), 100);
        due("none", x.about(1, 2, 3), 0);
        x.write(1, 2, 200, 1, 1);
        due("ends in a hole", x.cut(1, 2, 30), 201);
        due("none", x.about(1, 2, 3), 0);
        due("range", x.cut(1, 1, 2161), -2);
        due("range", x.cut(1, 1, -1), -2);
        due("no file", x.cut(1, 1, 0), -3);
        due("snapshot's", x.cut(-1, 2, 0), -3);
        due("no node", x.cut(-1, 3, -1), -1);
        x.as(1);
        due("may not", x.cut(1, 2, 0), -5);
        x.as(0);
        PoolHouse y = pool(10);
        fill(y, 400);
        y.snapshot(1);
        due("no room", y.cut(1, 2, 2150), -4);
        due("no room", y.cut(1, 2, 10), -4);
        due("room", y.cut(1, 2, 2100), 2160);
        due("length", y.about(1, 2, 1), 2100);
        y.back(1, 1);
        y.destroy(-1);
        due("alone", y.cut(1, 2, 2150), 2160);
        y.cut(1, 2, 2040);
        y.snapshot(1);
        due("398", y.held(0, false), 398);
        y.cut(1, 3, 2150);
        y.cut(1, 4, 2150);
        due("400", y.held(0, false), 400);
        due("no room", y.cut(1, 5, 2150), -4);
        due("drops one, takes one", y.cut(1, 3, 2080), 2150);
    }

    private static void link() {
        PoolHouse x = pool(11);
        x.make(1, 1, 5, 1);
        x.make(1, 1, 6, 2);
        due("second", x.link(1, 2, 3, 5), 2);
        due("there", x.link(1, 2, 1, 6), -3);
        due("no file", x.link(1, 3, 1, 7), -3);
        due("no directory", x.link(1, 2, 2, 7), -3);
        due("no node", x.link(1, 4, 1, 0), -1);
        due("no node", x.link(1, 2, 4, 0), -1);
        due("no name", x.link(1, 3, 1, 0), -2);
        for (int i = 3; i <= 9; i++) {
            due("more", x.link(1, 2, 1, 10 + i), i);
        }
        due("tenth", x.link(1, 2, 1, 30), -4);
        due("tenth, there", x.link(1, 2, 1, 5), -3);
        for (int i = 9; i < 24; i++) {
            x.make(1, 1, 100 + i, 1);
        }
        due("24", x.about(1, 1, 1), 24);
        due("25th", x.link(1, 4, 1, 30), -4);
        due("elsewhere", x.link(1, 4, 3, 30), 2);
        x.snapshot(1);
        due("snapshot's", x.link(-1, 4, 3, 31), -3);
        x.rights(1, 3, 62);
        x.as(1);
        due("may not", x.link(1, 4, 3, 31), -5);
        x.as(0);
        x.open(1, 5);
        x.unlink(1, 1, 110);
        due("no entry", x.about(1, 5, 2), 0);
        due("the first again", x.link(1, 5, 3, 31), 1);
        due("close", x.close(1), 5);
        due("still there", x.about(1, 5, 2), 1);
    }

    private static void unlink() {
        PoolHouse x = pool(12);
        x.make(1, 1, 5, 1);
        x.make(1, 1, 6, 2);
        x.make(1, 3, 7, 1);
        linkTo(x, 1, 8, true, 5, 6);
        x.write(1, 4, 0, 1, 1);
        due("not empty", x.unlink(1, 1, 6), -3);
        due("no name", x.unlink(1, 2, 0), -2);
        due("no directory", x.unlink(1, 2, 5), -3);
        due("not there", x.unlink(1, 1, 9), -1);
        due("no node", x.unlink(1, 9, 0), -1);
        x.as(1);
        due("may not", x.unlink(1, 1, 9), -5);
        x.as(0);
        x.link(1, 4, 1, 70);
        due("one of two", x.unlink(1, 3, 7), 4);
        due("one left", x.about(1, 4, 2), 1);
        due("last", x.unlink(1, 1, 70), 4);
        due("gone", x.about(1, 4, 0), -1);
        due("its block", x.held(0, false), 0);
        due("link", x.unlink(1, 1, 8), 5);
        due("gone", x.about(1, 5, 0), -1);
        due("directory", x.unlink(1, 1, 6), 3);
        due("gone", x.about(1, 3, 0), -1);
        x.snapshot(1);
        due("snapshot's", x.unlink(-1, 1, 5), -3);
        x.open(1, 2);
        due("open", x.unlink(1, 1, 5), 2);
        due("not gone", x.write(1, 2, 0, 1, 1), 1);
    }

    private static void rename() {
        PoolHouse x = pool(13);
        x.make(1, 1, 5, 1);
        x.make(1, 1, 6, 2);
        x.make(1, 3, 7, 2);
        due("file", x.rename(1, 1, 5, 3, 8), 2);
        due("from", x.find(1, 1, 5), -1);
        due("to", x.find(1, 3, 8), 2);
        due("directory", x.rename(1, 3, 7, 1, 7), 4);
        due("above", x.about(1, 4, 4), 1);
        due("another name", x.rename(1, 3, 8, 3, 9), 2);
        due("same", x.rename(1, 3, 9, 3, 9), 2);
        due("same, missing", x.rename(1, 3, 8, 3, 8), -1);
        due("acts", x.commit(), 7);
        linkTo(x, 1, 20, true, 5, 6);
        x.make(1, 1, 21, 1);
        x.write(1, 6, 0, 1, 1);
        due("over a file", x.rename(1, 1, 20, 1, 21), 5);
        due("gone", x.about(1, 6, 0), -1);
        due("no blocks", x.held(0, false), 0);
        due("over a link", x.rename(1, 3, 9, 1, 21), 2);
        due("gone", x.about(1, 5, 0), -1);
        due("a file has no directory", x.about(1, 2, 4), 0);
        x.link(1, 2, 3, 30);
        due("both mean one", x.rename(1, 1, 21, 3, 30), 2);
        due("first is gone", x.find(1, 1, 21), -1);
        due("second stays", x.find(1, 3, 30), 2);
        due("one left", x.about(1, 2, 2), 1);
        x.make(1, 1, 31, 1);
        x.open(1, 5);
        due("over an open one", x.rename(1, 3, 30, 1, 31), 2);
        due("not gone", x.about(1, 5, 2), 0);
        x.close(1);
        due("gone", x.about(1, 5, 2), -1);
        linkTo(x, 1, 40, true, 5, 6);
        due("link", x.rename(1, 1, 40, 3, 40), 5);
        due("above", x.about(1, 5, 4), 3);
    }

    private static void renameRefused() {
        PoolHouse x = pool(13);
        x.make(1, 1, 5, 2);
        x.make(1, 2, 6, 2);
        x.make(1, 1, 7, 1);
        x.make(1, 1, 8, 2);
        due("into itself", x.rename(1, 1, 5, 2, 9), -3);
        due("below itself", x.rename(1, 1, 5, 3, 9), -3);
        due("over a directory", x.rename(1, 1, 7, 1, 8), -3);
        due("directory over a directory", x.rename(1, 1, 5, 1, 8), -3);
        due("directory over a file", x.rename(1, 1, 5, 1, 7), -3);
        due("no from", x.rename(1, 9, 0, 9, 0), -1);
        due("no to", x.rename(1, 1, 0, 9, 0), -1);
        due("no name", x.rename(1, 1, 0, 4, 8), -2);
        due("no new name", x.rename(1, 1, 5, 4, 0), -2);
        due("from a file", x.rename(1, 4, 5, 1, 9), -3);
        due("to a file", x.rename(1, 1, 5, 4, 9), -3);
        due("missing", x.rename(1, 1, 50, 2, 9), -1);
        x.rights(1, 5, 63);
        x.as(1);
        due("may not from", x.rename(1, 1, 50, 5, 9), -5);
        due("may not to", x.rename(1, 5, 50, 1, 9), -5);
        due("may", x.rename(1, 5, 50, 5, 9), -1);
        x.as(0);
        for (int i = 0; i < 24; i++) {
            x.make(1, 5, 100 + i, 1);
        }
        due("24", x.about(1, 5, 1), 24);
        due("full", x.rename(1, 1, 7, 5, 9), -4);
        due("full, has that name", x.rename(1, 1, 7, 5, 100), 4);
        due("full, is from", x.rename(1, 5, 101, 5, 9), 7);
        due("full, a directory there is none", x.rename(1, 1, 5, 5, 10), -4);
        x.snapshot(1);
        due("snapshot's", x.rename(-1, 5, 9, 5, 9), -3);
    }

    private static void about() {
        PoolHouse x = pool(14);
        x.make(1, 1, 5, 2);
        x.as(0);
        x.make(1, 2, 6, 1);
        x.write(1, 3, 100, 1, 1);
        x.link(1, 3, 1, 7);
        linkTo(x, 2, 8, true, 4, 5, 6);
        x.attribute(1, 4, 1, 1, true);
        x.own(1, 4, 7);
        x.rights(1, 4, 9);
        long[][] due = {{2, 2, 0, 0, 0, 0, 61, 0}, {2, 2, 1, 0, 1, 0, 61, 0}, {1, 101, 2, 1, 0, 0, 61, 0},
            {3, 2, 1, 0, 2, 7, 9, 1}};
        for (int n = 1; n <= 4; n++) {
            for (int w = 0; w < 8; w++) {
                due("about " + n + " " + w, x.about(1, n, w), due[n - 1][w]);
            }
        }
        due("what 8", x.about(1, 1, 8), -2);
        due("what -1", x.about(1, 1, -1), -2);
        due("no node", x.about(1, 5, 8), -1);
        due("no tree", x.about(-1, 1, 0), -1);
        x.snapshot(1);
        x.unlink(1, 2, 8);
        due("snapshot's", x.about(-1, 4, 5), 7);
    }

    private static void entry() {
        PoolHouse x = pool(15);
        x.make(1, 1, 9, 1);
        x.make(1, 1, 1000000, 1);
        x.make(1, 1, 3, 1);
        due("0", x.entry(1, 1, 0), 3);
        due("1", x.entry(1, 1, 1), 9);
        due("2", x.entry(1, 1, 2), 1000000);
        due("3", x.entry(1, 1, 3), -2);
        due("-1", x.entry(1, 1, -1), -2);
        due("no directory", x.entry(1, 2, -1), -3);
        due("no node", x.entry(1, 5, 0), -1);
        x.unlink(1, 1, 9);
        due("1", x.entry(1, 1, 1), 1000000);
        x.rights(1, 1, 59);
        x.as(1);
        due("may not", x.entry(1, 1, 9), -5);
    }

    private static void own() {
        PoolHouse x = pool(16);
        x.make(1, 1, 5, 1);
        due("own", x.own(1, 2, 7), 0);
        due("own", x.own(1, 2, 3), 7);
        due("user 8", x.own(1, 2, 8), -2);
        due("user -1", x.own(1, 2, -1), -2);
        due("no node", x.own(1, 3, 9), -1);
        due("root", x.own(1, 1, 2), 0);
        x.write(1, 2, 59, 1, 2);
        x.limit(1, 4, 1);
        due("limit", x.own(1, 2, 4), -4);
        x.limit(1, 4, 2);
        due("limit", x.own(1, 2, 4), 3);
        due("the same", x.own(1, 2, 4), 4);
        x.make(1, 1, 6, 1);
        x.limit(1, 6, 0);
        due("no blocks", x.own(1, 3, 6), 0);
        x.snapshot(1);
        due("snapshot's", x.own(-1, 2, 0), -3);
        x.as(4);
        due("may not, though the owner", x.own(1, 2, 4), -5);
        due("may not, snapshot's", x.own(-1, 2, 0), -3);
    }

    private static void rights() {
        PoolHouse x = pool(17);
        x.make(1, 1, 5, 1);
        due("rights", x.rights(1, 2, 0), 61);
        due("rights", x.rights(1, 2, 63), 0);
        due("64", x.rights(1, 2, 64), -2);
        due("-1", x.rights(1, 2, -1), -2);
        due("no node", x.rights(1, 3, 64), -1);
        x.snapshot(1);
        due("snapshot's", x.rights(-1, 2, 5), -3);
        x.as(1);
        due("not the owner", x.rights(1, 2, 5), -5);
        x.as(0);
        x.own(1, 2, 1);
        x.as(1);
        due("the owner", x.rights(1, 2, 5), 63);
        due("owner has no bit now", x.write(1, 2, 0, 1, 1), -5);
    }

    private static void attribute() {
        PoolHouse x = pool(18);
        x.make(1, 1, 5, 1);
        due("on", x.attribute(1, 2, 99, 5, true), 0);
        due("again", x.attribute(1, 2, 99, 6, true), 1);
        due("value", x.attributeOf(1, 2, 99), 6);
        due("off", x.attribute(1, 2, 99, 6, false), 1);
        due("off again", x.attribute(1, 2, 99, 6, false), 0);
        due("key 0", x.attribute(1, 2, 0, 1, true), -2);
        due("key 100", x.attribute(1, 2, 100, 1, false), -2);
        due("no node", x.attribute(1, 3, 0, 1, true), -1);
        for (int i = 1; i <= 4; i++) {
            due("on", x.attribute(1, 2, 10 * i, i, true), 0);
        }
        due("fifth", x.attribute(1, 2, 50, 1, true), -4);
        due("fifth off", x.attribute(1, 2, 50, 1, false), 0);
        due("one of four", x.attribute(1, 2, 30, 9, true), 1);
        due("acts", x.commit(), 11);
        x.snapshot(1);
        due("snapshot's", x.attribute(-1, 2, 10, 1, true), -3);
        x.as(2);
        due("may not", x.attribute(1, 2, 10, 1, false), -5);
        x.as(0);
        x.own(1, 2, 2);
        x.as(2);
        due("may", x.attribute(1, 2, 10, 1, false), 1);
    }

    private static void attributeOfAndKey() {
        PoolHouse x = pool(19);
        x.make(1, 1, 5, 2);
        x.attribute(1, 2, 9, Long.MIN_VALUE, true);
        x.attribute(1, 2, 3, -1, true);
        x.attribute(1, 2, 40, 7, true);
        due("least long", x.attributeOf(1, 2, 9), Long.MIN_VALUE);
        due("-1", x.attributeOf(1, 2, 3), -1);
        due("none", x.attributeOf(1, 2, 4), 0);
        due("key 0", x.attributeOf(1, 2, 0), 0);
        due("no node", x.attributeOf(1, 3, 9), 0);
        due("no tree", x.attributeOf(2, 2, 9), 0);
        promise = 20;
        due("0", x.key(1, 2, 0), 3);
        due("1", x.key(1, 2, 1), 9);
        due("2", x.key(1, 2, 2), 40);
        due("3", x.key(1, 2, 3), -2);
        due("-1", x.key(1, 2, -1), -2);
        due("no node", x.key(1, 3, -1), -1);
        x.attribute(1, 2, 9, 0, false);
        due("1", x.key(1, 2, 1), 40);
        due("7", x.attributeOf(1, 2, 40), 7);
    }

    private static void as() {
        PoolHouse x = pool(21);
        due("as", x.as(7), 0);
        due("as", x.as(8), -2);
        due("as", x.as(-1), -2);
        due("as", x.as(0), 7);
        x.as(3);
        x.crash(0);
        due("0 by a crash", x.as(0), 0);
    }

    private static void usageAndLimit() {
        PoolHouse x = pool(22);
        x.rights(1, 1, 63);
        x.as(2);
        x.make(1, 1, 5, 1);
        x.write(1, 2, 59, 1, 2);
        x.make(1, 1, 6, 1);
        x.write(1, 3, 0, 1, 1);
        due("usage", x.usage(1, 2), 3);
        due("usage", x.usage(1, 0), 0);
        due("user 8", x.usage(1, 8), -2);
        due("no tree", x.usage(-1, 8), -1);
        promise = 23;
        due("may not", x.limit(1, 2, 3), -5);
        due("has more", x.limit(1, 2, 2), -3);
        due("user", x.limit(1, 8, 2), -2);
        due("blocks", x.limit(1, 2, 401), -2);
        due("blocks", x.limit(1, 2, -1), -2);
        due("none", x.limit(2, 8, 2), -1);
        due("none", x.limit(0, 8, 2), -1);
        x.as(0);
        x.snapshot(1);
        due("snapshot's usage", x.usage(-1, 2), 3);
        due("snapshot", x.limit(-1, 2, 2), -1);
        due("limit", x.limit(1, 2, 3), 400);
        due("limit of another one writing", x.write(1, 2, 120, 1, 1), -4);
        due("adds none", x.write(1, 2, 59, 1, 2), 61);
        x.cut(1, 2, 0);
        due("less", x.limit(1, 2, 1), 3);
        due("less", x.limit(1, 0, 0), 400);
        due("back does not look", x.back(1, 1), 1);
        due("over", x.usage(1, 2), 3);
        due("adds none", x.write(1, 2, 59, 1, 2), 61);
        due("adds", x.write(1, 2, 119, 1, 2), -4);
        x.make(1, 1, 7, 1);
        due("without blocks", x.own(1, 4, 2), 0);
        due("lessens", x.cut(1, 2, 60), 61);
        due("adds", x.write(1, 2, 60, 1, 1), -4);
        due("clone has limits of its own", x.clone(1), 2);
        due("limit", x.limit(2, 2, 400), 400);
        due("a crash keeps it", x.crash(0), 0);
        due("limit", x.limit(1, 2, 400), 1);
    }

    private static void locks() {
        PoolHouse x = pool(24);
        files(x, 2);
        due("not open", x.lock(1, 0, 0, 9), -1);
        for (int i = 1; i <= 3; i++) {
            x.open(1, 2);
        }
        x.open(1, 3);
        due("shared", x.lock(2, 100, 200, 1), 0);
        due("shared by two", x.lock(3, 200, 300, 1), 0);
        due("alone, barred by the least", x.lock(1, 0, 2159, 2), 2);
        due("nothing changed", x.locked(1, 0), 0);
        due("alone, barred", x.lock(1, 201, 201, 2), 3);
        due("alone", x.lock(1, 0, 99, 2), 0);
        due("shared, barred", x.lock(3, 99, 99, 1), 1);
        due("another file", x.lock(4, 0, 2159, 2), 0);
        due("not", x.lock(1, 10, 20, 0), 0);
        due("shared in the gap", x.lock(2, 10, 20, 1), 0);
        due("to shared, over its own", x.lock(1, 0, 20, 1), 0);
        due("alone over its own", x.lock(1, 0, 9, 2), 0);
        due("from", x.lock(1, -1, 5, 1), -2);
        due("to", x.lock(1, 0, 2160, 1), -2);
        due("order", x.lock(1, 5, 4, 1), -2);
        due("kind", x.lock(1, 5, 5, 3), -2);
        due("kind", x.lock(1, 5, 5, -1), -2);
        promise = 25;
        due("alone", x.locked(1, 9), 2);
        due("shared", x.locked(1, 10), 1);
        due("alone", x.locked(1, 99), 2);
        due("none", x.locked(1, 100), 0);
        due("last", x.locked(4, 2159), 2);
        due("no byte", x.locked(4, 2160), -2);
        due("no byte", x.locked(4, -1), -2);
        due("not open", x.locked(5, -1), -1);
        due("bars no write", x.write(1, 2, 0, 1, 1), 1);
        x.close(1);
        due("gone with it", x.lock(3, 30, 99, 2), 0);
        x.open(1, 2);
        due("none at first", x.locked(1, 99), 0);
        due("acts", x.commit(), 4);
    }

    private static void openAndClose() {
        PoolHouse x = pool(26);
        files(x, 1);
        x.make(1, 1, 6, 2);
        due("no file", x.open(1, 3), -3);
        due("no node", x.open(1, 4), -1);
        x.snapshot(1);
        due("snapshot's", x.open(-1, 2), -3);
        x.rights(1, 2, 57);
        x.as(1);
        due("may not", x.open(1, 2), -5);
        x.as(0);
        x.rights(1, 2, 58);
        x.as(1);
        due("may write", x.open(1, 2), 1);
        x.as(0);
        x.rights(1, 2, 60);
        x.as(1);
        due("may read", x.open(1, 2), 2);
        x.as(0);
        for (int i = 3; i <= 8; i++) {
            due("open", x.open(1, 2), i);
        }
        due("ninth", x.open(1, 2), -4);
        promise = 27;
        due("close", x.close(3), 2);
        due("close", x.close(3), -1);
        due("close", x.close(0), -1);
        due("close", x.close(9), -1);
        due("least", x.open(1, 2), 3);
        promise = 28;
        due("dataset", x.handle(8, 0), 1);
        due("node", x.handle(8, 1), 2);
        due("what", x.handle(8, 2), -2);
        due("what", x.handle(8, -1), -2);
        due("none", x.handle(9, 2), -1);
        x.write(1, 2, 0, 1, 1);
        x.unlink(1, 1, 101);
        for (int i = 1; i < 8; i++) {
            x.close(i);
        }
        due("still there", x.read(1, 2, 0), 1);
        due("held", x.held(0, false), 1);
        due("last", x.close(8), 2);
        due("gone", x.read(1, 2, 0), -1);
        due("held", x.held(0, false), 0);
        due("told of the snapshot", x.told(-1, 3), 3);
    }

    private static void snapshot() {
        PoolHouse x = pool(29);
        files(x, 1);
        for (int i = 1; i <= 8; i++) {
            due("snapshot", x.snapshot(1), i);
        }
        due("ninth", x.snapshot(1), -4);
        due("none", x.snapshot(2), -1);
        due("below", x.snapshot(-1), -1);
        x.as(1);
        due("may not", x.snapshot(1), -5);
        x.as(0);
        x.destroy(-8);
        due("no number again", x.snapshot(1), 9);
        x.open(1, 2);
        x.write(1, 2, 0, 1, 1);
        x.unlink(1, 1, 101);
        x.destroy(-9);
        due("with what has no entry", x.snapshot(1), 10);
        x.close(1);
        due("it is there", x.read(-10, 2, 0), 1);
        due("and not here", x.read(1, 2, 0), -1);
        due("not elsewhere", x.read(-1, 2, 0), -2);
    }

    private static void cloned() {
        PoolHouse x = pool(30);
        files(x, 2);
        x.write(1, 2, 0, 1, 1);
        x.open(1, 3);
        x.unlink(1, 1, 102);
        x.snapshot(1);
        due("clone", x.clone(1), 2);
        due("the file without entries is gone", x.about(2, 3, 0), -1);
        due("but in the snapshot", x.about(-1, 3, 0), 1);
        due("and here", x.about(1, 3, 0), 1);
        due("blocks in common", x.held(0, false), 1);
        due("origin", x.told(2, 0), 1);
        due("no snapshots", x.told(2, 1), 0);
        due("quota", x.told(2, 2), 400);
        for (int i = 3; i <= 5; i++) {
            due("clone", x.clone(1), i);
        }
        due("sixth", x.clone(1), -4);
        due("none", x.clone(2), -1);
        due("below", x.clone(-1), -1);
        x.destroy(3);
        due("no number again", x.clone(1), 6);
        x.destroy(6);
        x.as(1);
        due("may not", x.clone(1), -5);
    }

    private static void back() {
        PoolHouse x = pool(31);
        files(x, 1);
        x.write(1, 2, 0, 1, 1);
        x.open(1, 2);
        x.snapshot(1);
        x.write(1, 2, 0, 2, 1);
        x.snapshot(1);
        x.clone(1);
        due("not the latest", x.back(1, 1), -3);
        due("another's", x.back(2, 2), -3);
        due("none", x.back(1, 3), -1);
        due("none", x.back(3, 2), -1);
        x.as(1);
        due("may not", x.back(1, 2), -5);
        x.as(0);
        x.write(1, 2, 60, 3, 1);
        due("back", x.back(1, 2), 1);
        due("handle closed", x.handle(1, 1), -1);
        due("length", x.about(1, 2, 1), 1);
        due("byte", x.read(1, 2, 0), 2);
        due("commit", x.commit(), 0);
        x.destroy(-2);
        due("the latest now", x.back(1, 1), 1);
        due("byte", x.read(1, 2, 0), 1);
        x.cut(1, 2, 0);
        x.quota(1, 0);
        due("quota", x.back(1, 1), -4);
        due("as it was", x.about(1, 2, 1), 0);
        PoolHouse y = pool(31);
        files(y, 1);
        y.write(1, 2, 0, 1, 1);
        y.open(1, 2);
        y.unlink(1, 1, 101);
        y.snapshot(1);
        y.close(1);
        y.quota(1, 0);
        due("what is gone has no weight", y.back(1, 1), 1);
        due("gone", y.about(1, 2, 0), -1);
    }

    private static void destroy() {
        PoolHouse x = pool(32);
        files(x, 1);
        x.write(1, 2, 59, 1, 2);
        due("the only one", x.destroy(1), -3);
        x.snapshot(1);
        x.clone(1);
        due("has snapshots", x.destroy(1), -3);
        due("origin", x.destroy(-1), -3);
        due("none", x.destroy(0), -1);
        due("none", x.destroy(3), -1);
        due("none", x.destroy(-2), -1);
        due("none", x.destroy(Integer.MIN_VALUE), -1);
        x.write(2, 2, 120, 1, 1);
        x.open(2, 2);
        x.unlink(2, 1, 101);
        x.as(1);
        due("may not", x.destroy(2), -5);
        due("state first", x.destroy(1), -3);
        x.as(0);
        due("one block", x.destroy(2), 1);
        due("handle closed", x.handle(1, 0), -1);
        x.hold(1, true);
        due("on hold", x.destroy(-1), -3);
        x.hold(1, false);
        x.unlink(1, 1, 101);
        due("two blocks", x.destroy(-1), 2);
        due("none held", x.held(0, false), 0);
        due("the only one", x.destroy(1), -3);
        x.snapshot(1);
        x.clone(2);
        x.snapshot(3);
        x.destroy(-3);
        due("clone", x.told(3, 0), 2);
        x.back(1, 2);
        due("no more than before", x.destroy(3), 0);
        due("its snapshot", x.destroy(-2), 0);
        due("kept", x.crash(0), 0);
        due("none", x.told(3, 0), -1);
    }

    private static void hold() {
        PoolHouse x = pool(33);
        due("none", x.hold(1, true), -1);
        x.snapshot(1);
        due("on", x.hold(1, true), 0);
        due("on", x.hold(1, true), 1);
        due("told", x.told(-1, 2), 1);
        due("off", x.hold(1, false), 1);
        due("off", x.hold(1, false), 0);
        due("below", x.hold(-1, false), -1);
        x.as(1);
        due("may not", x.hold(1, true), -5);
        x.as(0);
        x.hold(1, true);
        x.crash(0);
        due("kept", x.told(-1, 2), 1);
        x.hold(1, false);
        x.destroy(-1);
        x.snapshot(1);
        due("a new one is not", x.told(-2, 2), 0);
    }

    private static void quota() {
        PoolHouse x = pool(34);
        files(x, 1);
        x.write(1, 2, 59, 1, 2);
        due("less", x.quota(1, 1), -3);
        due("all", x.quota(1, 2), 400);
        due("range", x.quota(1, 401), -2);
        due("range", x.quota(1, -1), -2);
        due("none", x.quota(2, 401), -1);
        x.as(1);
        due("state first", x.quota(1, 1), -3);
        due("may not", x.quota(1, 3), -5);
        x.as(0);
        due("was", x.quota(1, 400), 2);
    }

    private static void held() {
        PoolHouse x = pool(35);
        files(x, 1);
        x.write(1, 2, 59, 1, 2);
        x.snapshot(1);
        x.clone(1);
        x.write(1, 2, 0, 1, 1);
        x.write(2, 2, 120, 1, 1);
        due("all", x.held(0, false), 4);
        due("1", x.held(1, false), 2);
        due("1 alone", x.held(1, true), 1);
        due("2", x.held(2, false), 3);
        due("2 alone", x.held(2, true), 1);
        due("-1", x.held(-1, false), 2);
        due("-1 alone", x.held(-1, true), 0);
        due("all alone", x.held(0, true), -2);
        due("none", x.held(3, true), -1);
        due("none", x.held(-2, false), -1);
        x.crash(0);
        due("lost acts hold none", x.held(0, false), 2);
    }

    private static void told() {
        PoolHouse x = pool(36);
        files(x, 3);
        x.snapshot(1);
        x.snapshot(1);
        x.clone(2);
        x.quota(2, 77);
        x.snapshot(2);
        x.make(2, 1, 900, 1);
        long[][] due = {{0, 2, 400, 4}, {2, 1, 77, 5}, {1, 0, 0, 4}, {1, 0, 0, 4}, {2, 0, 0, 4}};
        int[] t = {1, 2, -1, -2, -3};
        for (int i = 0; i < 5; i++) {
            for (int w = 0; w < 4; w++) {
                due("told " + t[i] + " " + w, x.told(t[i], w), due[i][w]);
            }
        }
        due("what", x.told(1, 4), -2);
        due("what", x.told(-1, -1), -2);
        due("none", x.told(0, 4), -1);
        due("none", x.told(3, 0), -1);
        due("none", x.told(-4, 0), -1);
    }

    private static void differs() {
        PoolHouse x = pool(37);
        files(x, 2);
        x.make(1, 1, 5, 2);
        linkTo(x, 1, 6, false, 5, 5);
        x.write(1, 2, 10, 1, 1);
        x.snapshot(1);
        due("same", x.differs(1, -1, 0), -2);
        x.write(1, 2, 10, 1, 1);
        due("same bytes", x.differs(1, -1, 0), -2);
        x.write(1, 2, 100, 0, 1);
        due("length", x.differs(1, -1, 0), 2);
        x.cut(1, 2, 11);
        due("same", x.differs(-1, 1, 0), -2);
        x.write(1, 2, 10, 2, 1);
        due("bytes", x.differs(1, -1, 0), 2);
        x.write(1, 2, 10, 1, 1);
        x.cut(1, 3, 60);
        x.cut(1, 2, 200);
        due("length", x.differs(-1, 1, 0), 2);
        due("length", x.differs(-1, 1, 1), 3);
        due("no more", x.differs(-1, 1, 2), -2);
        x.back(1, 1);
        x.rename(1, 1, 5, 1, 7);
        due("names", x.differs(-1, 1, 0), 1);
        due("nothing but", x.differs(-1, 1, 1), -2);
        x.rename(1, 1, 7, 1, 5);
        x.rename(1, 1, 101, 1, 8);
        x.rename(1, 1, 102, 1, 101);
        x.rename(1, 1, 8, 1, 102);
        due("nodes", x.differs(-1, 1, 0), 1);
        due("nothing but", x.differs(-1, 1, 1), -2);
        x.back(1, 1);
        x.own(1, 2, 1);
        x.rights(1, 3, 1);
        x.attribute(1, 4, 1, 0, true);
        for (int n = 2; n <= 4; n++) {
            due("owner, rights, attributes", x.differs(-1, 1, n - 2), n);
        }
        x.back(1, 1);
        x.unlink(1, 1, 6);
        linkTo(x, 1, 6, true, 5, 5);
        due("from the root", x.differs(-1, 1, 0), 5);
        x.unlink(1, 1, 6);
        linkTo(x, 1, 6, false, 5, 0);
        due("steps", x.differs(-1, 1, 0), 5);
        x.unlink(1, 1, 6);
        x.make(1, 1, 6, 1);
        due("kind", x.differs(-1, 1, 0), 5);
        x.make(1, 1, 60, 1);
        due("one has it", x.differs(-1, 1, 0), 1);
        due("one has it", x.differs(-1, 1, 2), 6);
        due("k", x.differs(1, -1, -1), -2);
        due("none", x.differs(1, -2, -1), -1);
        due("none", x.differs(2, -1, -1), -1);
        x.back(1, 1);
        x.write(1, 2, 70, 0, 1);
        x.snapshot(1);
        x.cut(1, 2, 60);
        x.cut(1, 2, 71);
        due("a hole is as a block of 0", x.differs(1, -2, 0), -2);
        due("though not the same", x.held(-2, true), 1);
        x.attribute(1, 4, 1, 5, true);
        x.snapshot(1);
        x.attribute(1, 4, 1, 6, true);
        due("the attribute's number", x.differs(1, -3, 0), 4);
        PoolHouse y = pool(37);
        for (int i = 0; i < 24; i++) {
            y.make(1, 1, 1 + i, i == 0 ? 2 : 1);
        }
        for (int i = 0; i < 11; i++) {
            y.make(1, 2, 1 + i, 1);
        }
        y.snapshot(1);
        due("all nodes", y.told(1, 3), 36);
        y.rights(1, 36, 0);
        due("the last", y.differs(1, -1, 0), 36);
        due("no other", y.differs(1, -1, 1), -2);
    }

    private static void send() {
        PoolHouse x = pool(38);
        x.snapshot(1);
        x.clone(1);
        x.snapshot(2);
        due("itself", x.send(1, 1), 1);
        due("different ones", x.send(1, 2), -3);
        due("none", x.send(1, 3), -1);
        due("none", x.send(3, 1), -1);
        due("none", x.send(0, 0), -1);
        x.as(1);
        due("state first", x.send(1, 2), -3);
        due("may not", x.send(1, 1), -5);
        x.as(0);
        due("no act", x.commit(), 0);
        due("stands", x.receive(1), 0);
        x.crash(0);
        due("gone by a crash", x.receive(1), -3);
    }

    private static void receive() {
        PoolHouse x = pool(39);
        files(x, 3);
        x.write(1, 2, 0, 1, 1);
        x.write(1, 2, 60, 2, 1);
        x.write(1, 3, 0, 3, 1);
        due("no stream", x.receive(1), -3);
        due("none", x.receive(2), -1);
        x.snapshot(1);
        x.write(1, 2, 60, 9, 1);
        x.write(1, 2, 0, 1, 1);
        x.unlink(1, 1, 102);
        x.write(1, 4, 0, 0, 1);
        x.write(1, 4, 300, 5, 1);
        x.snapshot(1);
        x.clone(1);
        x.send(1, 2);
        x.as(1);
        due("may not", x.receive(2), -5);
        x.as(0);
        due("the tree is another", x.receive(1), -3);
        x.open(2, 2);
        due("three new", x.receive(2), 3);
        due("handle closed", x.handle(1, 0), -1);
        due("same", x.differs(2, -2, 0), -2);
        due("one stays, three are new", x.held(2, true), 3);
        due("the stream stays, the tree does not", x.receive(2), -3);
        due("put down", x.crash(0), 0);
        due("same", x.differs(2, -2, 0), -2);
        x.back(1, 2);
        x.send(2, 1);
        due("back again", x.receive(2), 2);
        due("same", x.differs(2, -1, 0), -2);
        x.destroy(2);
        x.clone(1);
        x.send(1, 2);
        x.destroy(-2);
        due("without its snapshot", x.receive(3), 3);
        due("byte", x.read(3, 4, 300), 5);
        PoolHouse y = pool(39);
        files(y, 2);
        y.write(1, 2, 0, 1, 1);
        y.open(1, 2);
        y.unlink(1, 1, 101);
        y.snapshot(1);
        due("without what has no entry", y.send(1, 1), 1);
        due("here it is open", y.told(1, 3), 3);
        due("same", y.receive(1), 0);
        due("gone", y.told(1, 3), 2);
        y.make(1, 1, 101, 1);
        y.write(1, 2, 0, 1, 1);
        y.snapshot(1);
        due("to where it is", y.send(1, 2), 1);
        y.unlink(1, 1, 101);
        due("one new", y.receive(1), 1);
        due("byte", y.read(1, 2, 0), 1);
        y.open(1, 2);
        y.unlink(1, 1, 101);
        due("open", y.about(1, 2, 3), 1);
        due("does not stay for a handle", y.receive(1), 1);
    }

    private static void receiveRoom() {
        PoolHouse x = pool(39);
        files(x, 1);
        x.snapshot(1);
        for (int i = 0; i < 18; i++) {
            x.write(1, 2, 59 + i * 120, 1, i < 17 ? 2 : 1);
        }
        x.snapshot(1);
        x.clone(1);
        x.send(1, 2);
        x.quota(2, 34);
        due("quota", x.receive(2), -4);
        due("as it was", x.about(2, 2, 1), 0);
        x.quota(2, 35);
        x.limit(2, 0, 0);
        due("limits are not looked at", x.receive(2), 35);
        PoolHouse y = pool(39);
        fill(y, 200);
        y.snapshot(1);
        y.cut(1, 2, 2100);
        y.write(1, 2, 59, 1, 2);
        y.snapshot(1);
        due("202", y.held(0, false), 202);
        y.clone(1);
        for (int i = 0; i < 6; i++) {
            for (int p = 0; p < 36; p += 2) {
                y.write(2, 2 + i, p * 60 + 59, 1, 2);
            }
        }
        due("held", y.held(0, false), 400);
        y.send(1, 2);
        due("another", y.differs(2, -1, 0) > 0 ? 1 : 0, 1);
        due("the clone's bytes are others", y.receive(2), -3);
        PoolHouse z = pool(39);
        fill(z, 398);
        z.snapshot(1);
        z.write(1, 2, 59, 1, 2);
        z.snapshot(1);
        z.clone(1);
        z.send(1, 2);
        due("400", z.held(0, false), 400);
        due("no room for two", z.receive(2), -4);
        due("it is the first", z.differs(2, -1, 0), -2);
        z.back(1, 2);
        z.destroy(2);
        z.write(1, 12, 0, 1, 1);
        z.destroy(-2);
        due("room made, and taken", z.held(0, false), 400);
    }

    private static void putDown() {
        PoolHouse x = pool(40);
        due("none", x.commit(), 0);
        files(x, 2);
        x.make(1, 1, 101, 1);
        x.open(1, 2);
        x.lock(1, 0, 5, 1);
        x.step(5);
        x.find(1, 1, 101);
        due("acts", x.commit(), 2);
        x.close(1);
        x.attribute(1, 1, 1, 1, false);
        x.rename(1, 1, 101, 1, 101);
        promise = 41;
        due("acts", x.sync(), 3);
        due("none", x.sync(), 0);
        x.rights(1, 2, 1);
        promise = 46;
        due("cut", x.scrub(true), 0);
        due("none", x.commit(), 0);
        x.own(1, 2, 1);
        due("scrub", x.scrub(false), 0);
        due("none", x.crash(1), 0);
        due("kept", x.about(1, 2, 5), 1);
        due("kept", x.about(1, 2, 6), 1);
        x.write(1, 2, 0, 1, 1);
        x.lose(1);
        due("lost", x.scrub(false), -3);
        due("not put down", x.crash(0), 1);
    }

    private static void acts() {
        PoolHouse x = pool(40);
        x.make(1, 1, 5, 1);
        due("make", x.commit(), 1);
        x.step(3);
        x.makeLink(1, 1, 6, true);
        due("makeLink", x.commit(), 1);
        x.write(1, 2, 0, 1, 1);
        due("write", x.commit(), 1);
        x.cut(1, 2, 1);
        due("cut", x.commit(), 1);
        x.link(1, 2, 1, 7);
        due("link", x.commit(), 1);
        x.unlink(1, 1, 7);
        due("unlink", x.commit(), 1);
        x.rename(1, 1, 5, 1, 8);
        due("rename", x.commit(), 1);
        x.own(1, 2, 0);
        due("own", x.commit(), 1);
        x.rights(1, 2, 61);
        due("rights", x.commit(), 1);
        x.attribute(1, 2, 1, 1, true);
        due("attribute", x.commit(), 1);
        x.open(1, 2);
        x.lock(1, 0, 5, 2);
        due("open, lock", x.commit(), 0);
        x.close(1);
        due("close", x.commit(), 1);
        x.as(1);
        x.walk(1, 1, true);
        x.spoil(1, 1, 1);
        due("as, walk, spoil", x.commit(), 0);
        x.make(1, 1, 9, 1);
        due("refused", x.commit(), 0);
    }

    private static void crash() {
        promise = 42;
        for (int how = 0; how <= 4; how++) {
            PoolHouse x = pool(42);
            files(x, 2);
            x.commit();
            x.write(1, 2, 0, 1, 1);
            x.open(1, 3);
            x.unlink(1, 1, 102);
            x.as(0);
            x.step(5);
            due("lost " + how, x.crash(how), how == 4 ? 0 : 2);
            due("length", x.about(1, 2, 1), how == 4 ? 1 : 0);
            due("handle", x.handle(1, 0), -1);
            due("file", x.about(1, 3, 0), how == 4 ? -1 : 1);
            due("path", x.step(1), 1);
            due("again", x.crash(how), 0);
        }
        PoolHouse x = pool(42);
        due("5", x.crash(5), -2);
        due("-1", x.crash(-1), -2);
        files(x, 1);
        x.write(1, 2, 0, 1, 1);
        x.open(1, 2);
        x.unlink(1, 1, 101);
        x.commit();
        due("open and kept", x.held(0, false), 1);
        due("none lost", x.crash(0), 0);
        due("gone", x.about(1, 2, 0), -1);
        due("no block", x.held(0, false), 0);
        x.make(1, 1, 5, 1);
        x.snapshot(1);
        x.make(1, 1, 6, 1);
        x.clone(1);
        x.make(2, 1, 7, 1);
        due("snapshot, clone put down", x.crash(0), 1);
        due("5", x.find(1, 1, 5), 2);
        due("6", x.find(1, 1, 6), 3);
        due("7", x.find(2, 1, 7), -1);
        x.make(1, 1, 8, 1);
        x.quota(2, 50);
        due("quota puts down", x.crash(0), 0);
        x.make(1, 1, 9, 1);
        x.limit(2, 1, 50);
        due("limit puts down", x.crash(0), 0);
        x.make(1, 1, 10, 1);
        x.hold(1, true);
        due("hold puts down", x.crash(0), 0);
        x.make(1, 1, 11, 1);
        x.destroy(2);
        due("destroy puts down", x.crash(0), 0);
        x.make(1, 1, 12, 1);
        x.send(1, 1);
        x.clone(2);
        due("send, a refused clone do not", x.crash(0), 1);
        due("quota refused", x.quota(1, 401), -2);
        x.clone(1);
        x.make(1, 1, 13, 1);
        x.send(1, 1);
        x.receive(3);
        due("receive puts down", x.crash(0), 0);
        x.make(1, 1, 14, 1);
        x.back(1, 1);
        due("back puts down", x.crash(0), 0);
        due("told", x.told(1, 3), 2);
    }

    private static void keptAtHundred() {
        PoolHouse x = pool(42);
        files(x, 1);
        for (int i = 0; i < 98; i++) {
            x.rights(1, 2, i % 64);
        }
        due("99 lost", x.crash(0), 99);
        due("nothing there", x.told(1, 3), 1);
        files(x, 1);
        for (int i = 0; i < 99; i++) {
            x.rights(1, 2, i % 64);
        }
        x.rights(1, 2, 64);
        due("none lost", x.crash(0), 0);
        due("all there", x.about(1, 2, 6), 98 % 64);
        for (int i = 0; i < 101; i++) {
            x.rights(1, 2, i % 64);
        }
        due("one since", x.commit(), 1);
    }

    private static void disks() {
        PoolHouse x = pool(43);
        due("none", x.spoil(5, 1, 0), -1);
        due("n", x.spoil(1, 1, 0), -2);
        due("n", x.spoil(1, 1, 2001), -2);
        due("spoil", x.spoil(1, Integer.MIN_VALUE, 2000), 1);
        due("again", x.spoil(1, 5, 1), 1);
        due("another", x.spoil(2, 5, 1), -3);
        promise = 44;
        due("none", x.lose(0), -1);
        due("another", x.lose(2), -3);
        due("lose", x.lose(1), 1);
        due("again", x.lose(1), -3);
        due("lost", x.spoil(1, 5, 1), -3);
        due("n first", x.spoil(1, 5, 0), -2);
        promise = 45;
        due("none", x.bring(5, true), -1);
        due("not lost", x.bring(2, true), -3);
        promise = 47;
        due("lost", x.disk(1), 2);
        due("there", x.disk(2), 0);
        due("none", x.disk(0), -1);
        due("crash", x.crash(2), 0);
        due("lost", x.disk(1), 2);
        due("scrub", x.scrub(true), -3);
        promise = 45;
        due("bring", x.bring(1, false), 1);
        due("again", x.bring(1, false), -3);
        due("suspect", x.disk(1), 1);
        due("another", x.lose(2), -3);
        promise = 46;
        due("cut", x.scrub(true), 0);
        due("suspect", x.disk(1), 1);
        due("scrub", x.scrub(false), 1);
        due("mended", x.disk(1), 0);
        due("scrub", x.scrub(false), 0);
        due("another now", x.lose(4), 1);
        files(x, 1);
        due("all else goes on", x.write(1, 2, 0, 5, 1), 1);
        due("put down", x.sync(), 2);
        due("crash", x.crash(0), 0);
        due("read", x.read(1, 2, 0), 5);
        due("bring", x.bring(4, true), 1);
        due("read", x.read(1, 2, 0), 5);
        due("scrub", x.scrub(false), 4);
        due("oddities", x.oddities(), 0);
    }

    private static void tape() {
        PoolHouse x = pool(48);
        due("feed", x.feed(0x636f6d6d, 0x69740a20, -1, 0, 0), 20);
        for (int i = 2; i <= 400; i++) {
            due("feed", x.feed(i, 0, 0, 0, 0), 20 * i);
        }
        due("full", x.feed(1, 1, 1, 1, 1), -4);
        promise = 49;
        due("more", x.end(8001), -2);
        due("below", x.end(-1), -2);
        due("end", x.end(7981), 8000);
        due("no room for twenty", x.feed(1, 1, 1, 1, 1), -4);
        due("end", x.end(7980), 7981);
        due("room", x.feed(1, 1, 1, 1, 1), 8000);
        due("end", x.end(7), 8000);
        due("crash", x.crash(0), 0);
        promise = 50;
        due("run", x.run(), 1);
        due("empty", x.end(0), 0);
        due("out", x.out(0), '0');
        promise = 51;
        due("out", x.out(1), 10);
        due("out", x.out(2), -2);
        due("out", x.out(-1), -2);
        x.crash(0);
        due("stays", x.out(0), '0');
        promise = 52;
        due("line", x.line(), -2);
        due("run", x.run(), 0);
        due("out", x.out(0), -2);
        due("line", new PoolHouse(4).line(), -2);
    }

    private static void scripts() {
        PoolHouse x = pool(50);
        script(x, "make 1 1 5 1\n write  1 @0 0 -1 8 \n\n   \nread 1 2 7\nabout 1 @0 1", 4, -2, "2\n8\n255\n8\n");
        script(x, "attribute 1 2 1 -999999999999999999 1\nattributeOf 1 2 1\nattribute 1 1 7 @1 1\nattributeOf 1 1 7",
            4, -2, "0\n-999999999999999999\n0\n-999999999999999999\n");
        x.attribute(1, 1, 8, Long.MIN_VALUE, true);
        script(x, "attributeOf 1 1 8\nattributeOf 1 1 9\nheld 0 -0\nheld 00 0001", 4, -2,
            "-9223372036854775808\n0\n1\n-2\n");
        script(x, "step 5\nmakeLink 1 1 9 1\nlinked 1 @1 -1\nwalk 1 1 0\nas 3\nas 0\nusage 1 0\nlimit 1 3 400\n"
            + "find 1 1 5\ncut 1 2 9\nlink 1 2 1 6\nunlink 1 1 6\nrename 1 1 5 1 5\nentry 1 1 0\nown 1 2 0\n"
            + "rights 1 2 61\nkey 1 1 0\n", 17, -2,
            "1\n3\n1\n-2\n0\n3\n1\n400\n2\n8\n2\n2\n2\n5\n0\n61\n7\n");
        script(x, "open 1 2\nlock 1 0 5 2\nlocked 1 5\nhandle 1 1\nclose 1\nsnapshot 1\nclone 1\nback 1 1\n"
            + "hold 1 1\nhold 1 0\nquota 1 400\ntold 1 1\ndiffers 1 -1 0\nsend 1 1\nreceive 1\ndestroy 2\n"
            + "destroy -1\n", 17, -2, "1\n0\n2\n2\n2\n1\n2\n1\n0\n1\n400\n1\n-2\n1\n0\n0\n0\n");
        script(x, "commit\nsync\ncrash 0\nspoil 1 1 1\nlose 1\nbring 1 1\ndisk 1\nscrub 1\nscrub 0\noddities\n",
            10, -2, "0\n0\n0\n1\n1\n1\n1\n0\n1\n0\n");
        longScript(pool(50), "as 0\n", 1600, "0\n");
        PoolHouse y = pool(50);
        y.attribute(1, 1, 1, Long.MIN_VALUE, true);
        longScript(y, "attributeOf 1 1 1\n", 444, Long.MIN_VALUE + "\n");
    }

    /** One line so many times: how many were done, and what OUT ends with. */
    private static void longScript(PoolHouse x, String line, int count, String answer) {
        feed(x, line.repeat(count));
        due("run", x.run(), count);
        due("line", x.line(), -2);
        int length = answer.length() * count;
        for (int i = 0; i < answer.length(); i++) {
            due("the first answer", x.out(i), answer.charAt(i));
            due("the last answer", x.out(length - answer.length() + i), answer.charAt(i));
        }
        due("behind the last", x.out(length), -2);
    }

    private static void wrongWords() {
        PoolHouse x = pool(52);
        script(x, "comit", -10, 0, "");
        script(x, "commit 1", -10, 1, "");
        script(x, "commit\n\nas\nas 1", -12, 1, "0\n");
        script(x, "as 1 x", -10, 2, "");
        script(x, "make 1 x 3 4 5 6", -10, 2, "");
        script(x, "make 1 1 5 1 5 5", -10, 5, "");
        script(x, "feed 1 1 1 1 1", -10, 0, "");
        script(x, "end 0", -10, 0, "");
        script(x, "run", -10, 0, "");
        script(x, "out 0", -10, 0, "");
        script(x, "line", -10, 0, "");
        script(x, "PoolHouse 4", -10, 0, "");
        script(x, "Commit", -10, 0, "");
        script(x, "commit\t", -10, 0, "");
        script(x, "as 2147483648", -10, 1, "");
        script(x, "as -2147483649", -10, 1, "");
        script(x, "as 2147483647\nas -2147483648", 2, -2, "-2\n-2\n");
        script(x, "as 000000000000000000", 1, -2, "0\n");
        script(x, "as 0000000000000000000", -10, 1, "");
        script(x, "as -", -10, 1, "");
        script(x, "as +0", -10, 1, "");
        script(x, "as @", -10, 1, "");
        script(x, "as @0", -10, 1, "");
        script(x, "as 0\nas @1", -11, 1, "0\n");
        script(x, "as 0\nas @-0", -11, 1, "0\n");
        script(x, "as 0\nas -@0", -11, 1, "0\n");
        script(x, "as 0\nas @000000000000000000", 2, -2, "0\n0\n");
        script(x, "as 0\nas @0000000000000000000", -11, 1, "0\n");
        script(x, "\n  \nas 0\n\n as @0", 2, -2, "0\n0\n");
        script(x, "scrub 2", -10, 1, "");
        script(x, "scrub -1", -10, 1, "");
        script(x, "held 0 2", -10, 2, "");
        script(x, "told 1 2\nheld 1 @0", -11, 2, "400\n");
        script(x, "as 9\nheld 1 @0", -11, 2, "-2\n");
        script(x, "attribute 1 1 1 5000000000 1\nattributeOf 1 1 1\nas @1", -12, 1, "0\n5000000000\n");
        script(x, "write 1 1 0 @0 1", -10, 4, "");
        script(x, "" + (char) 200, -10, 0, "");
        script(x, "as " + (char) 200, -10, 1, "");
        script(x, "\n\n\n\nx", -14, 0, "");
        script(x, "", 0, -2, "");
    }

    private static void ways() {
        PoolHouse x = pool(50);
        x.make(1, 1, 5, 2);
        x.make(1, 2, 1000000, 2);
        x.make(1, 3, 7, 1);
        linkTo(x, 1, 9, true, 5, 5);
        x.snapshot(1);
        x.unlink(1, 3, 7);
        x.rights(1, 2, 0);
        x.as(4);
        script(x, "about 1 / 1\nabout 1 /5 4\nabout 1 /5/1000000 4\nabout -1 /5/1000000/7 0", 4, -2,
            "2\n1\n2\n1\n");
        script(x, "about 1 /5/1000000/7 0\nabout 1 /9/5 0\nabout 1 /9 0\nabout 1 /0000005 1", 4, -2,
            "-1\n-1\n3\n1\n");
        script(x, "about 7 / 0\ntold 1 /\nusage 1 /5", 3, -2, "-1\n1\n0\n");
        script(x, "differs 1 -1 /77", 1, -2, "2\n");
        script(x, "held 1 /\nheld 1 /77\nheld 1 /5", -12, 2, "0\n0\n");
        script(x, "as /", -10, 1, "");
        script(x, "about 1 // 0", -10, 2, "");
        script(x, "about 1 /5/ 0", -10, 2, "");
        script(x, "about 1 /5//5 0", -10, 2, "");
        script(x, "about 1 5/5 0", -10, 2, "");
        script(x, "about 1 /00000005 0", -10, 2, "");
        script(x, "about 1 /x 0", -10, 2, "");
        script(x, "about 1 /-5 0", -10, 2, "");
        script(x, "about 1 /9999999 0", 1, -2, "-1\n");
        script(x, "about 1 /77/x 0", -10, 2, "");
        script(x, "as 0\nunlink 1 / 9\nmakeLink 1 /5 6 1\nmake 1 /5 6 1\nabout 1 /5/6 0", 5, -2,
            "4\n5\n-2\n4\n1\n");
    }

    /** The NODE with the greatest number is as all others. */
    private static void lastNode() {
        PoolHouse x = pool(2);
        x.make(1, 1, 1, 2);
        for (int i = 0; i < 34; i++) {
            due("make", x.make(1, i < 20 ? 1 : 2, 2 + i, 1), 3 + i);
        }
        due("full", x.make(1, 1, 99, 1), -4);
        due("told", x.told(1, 3), 36);
        x.snapshot(1);
        due("write", x.write(1, 36, 59, 0x0102, 2), 61);
        due("held", x.held(1, false), 2);
        due("alone", x.held(1, true), 2);
        due("usage", x.usage(1, 0), 2);
        due("quota", x.quota(1, 1), -3);
        x.snapshot(1);
        x.clone(1);
        x.send(1, 2);
        due("two new", x.receive(2), 2);
        due("read", x.read(2, 36, 60), 2);
        due("same", x.differs(2, -2, 0), -2);
        due("another one now", x.receive(2), -3);
        x.back(1, 2);
        x.cut(1, 36, 0);
        due("crash", x.crash(0), 1);
        due("kept", x.about(1, 36, 3), 2);
        x.open(1, 36);
        x.unlink(1, 2, 35);
        due("open", x.about(1, 36, 2), 0);
        due("two", x.held(-2, true), 0);
        due("back", x.back(1, 2), 1);
        x.destroy(-2);
        x.open(1, 36);
        x.unlink(1, 2, 35);
        x.commit();
        due("gone by a crash", x.crash(0), 0);
        due("gone", x.about(1, 36, 2), -1);
        due("the clone has its own", x.held(0, false), 2);
        due("the clone's", x.destroy(2), 2);
        x.snapshot(1);
        x.clone(3);
        due("no room for what is there", x.quota(3, 0), 400);
        x.make(1, 2, 35, 1);
        x.write(1, 36, 59, 0x0102, 2);
        x.snapshot(1);
        x.send(3, 4);
        due("quota", x.receive(3), -4);
        x.quota(3, 2);
        due("room", x.receive(3), 2);
        due("oddities", x.oddities(), 0);
    }

    private static void deepest() {
        PoolHouse x = pool(13);
        for (int i = 1; i < 35; i++) {
            due("make", x.make(1, i, 1, 2), i + 1);
        }
        due("file", x.make(1, 1, 2, 1), 36);
        due("below itself", x.rename(1, 1, 1, 35, 1), -3);
        due("in itself", x.rename(1, 34, 1, 35, 1), -3);
        due("file", x.rename(1, 1, 2, 35, 2), 36);
        due("up", x.rename(1, 34, 1, 1, 3), 35);
        due("above", x.about(1, 35, 4), 1);
        due("into it", x.rename(1, 1, 1, 35, 1), 2);
        StringBuilder way = new StringBuilder("/3/1");
        for (int i = 2; i < 34; i++) {
            way.append("/1");
        }
        script(x, "about 1 " + way + " 4\nabout 1 " + way + "/1 4\nabout 1 /3/2 0", 3, -2, "33\n-1\n1\n");
    }

    private static void oddities() {
        PoolHouse x = pool(53);
        fill(x, 100);
        due("none", x.oddities(), 0);
        x.snapshot(1);
        x.clone(1);
        x.write(2, 2, 59, 1, 2);
        x.open(1, 3);
        x.unlink(1, 1, 102);
        x.snapshot(2);
        x.send(1, 1);
        due("none", x.oddities(), 0);
        x.crash(0);
        due("none", x.oddities(), 0);
        x.back(2, 2);
        x.destroy(-2);
        x.destroy(2);
        x.destroy(-1);
        due("none", x.oddities(), 0);
        x.cut(1, 2, 0);
        x.commit();
        due("none", x.oddities(), 0);
        due("held", x.held(0, false), 28);
    }
}
