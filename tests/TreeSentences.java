/** The sentences of promises 1 to 20: NODES, their NAMES, bytes, RIGHTS and ATTRIBUTES. */
final class TreeSentences extends Sentences {
    private TreeSentences() {
    }

    static void all() {
        newObject();
        make();
        lastNode();
        makeRefused();
        step();
        makeLink();
        makeLinkRefused();
        walk();
        walkRefused();
        linked();
        find();
        write();
        writeRefused();
        writeRoom();
        read();
        cut();
        cutRefused();
        link();
        linkRefused();
        unlink();
        unlinkRefused();
        rename();
        renameRefused();
        renameNames();
        about();
        entry();
        own();
        rights();
        attribute();
        attributeOf();
        key();
    }

    private static void hasDisks(int told, int count) {
        PoolHouse x = new PoolHouse(told);
        due("the last disk of " + told, x.disk(count), 0);
        due("one more of " + told, x.disk(count + 1), -1);
    }

    private static void newObject() {
        holds(1, "A pool of that many disks", x -> {
            for (int i = 4; i <= 7; i++) {
                hasDisks(i, i);
            }
        });
        holds(1, "4 when it is less", x -> {
            hasDisks(3, 4);
            hasDisks(0, 4);
            hasDisks(-1, 4);
            hasDisks(LEAST, 4);
        });
        holds(1, "7 when it is more", x -> {
            hasDisks(8, 7);
            hasDisks(GREATEST, 7);
        });
        holds(1, "DATASET 1 is there", x -> {
            due("NODES", x.told(1, 3), 1);
            due("DATASET 0", x.told(0, 3), -1);
            due("DATASET 2", x.told(2, 3), -1);
            due("SNAPSHOT 1", x.told(-1, 3), -1);
        });
        holds(1, "and KEPT", x -> {
            due("make", x.make(1, 1, 5, 1), 2);
            due("crash", x.crash(0), 1);
            due("NODES", x.told(1, 3), 1);
            due("ENTRIES", x.about(1, 1, 1), 0);
        });
        holds(TERMS, "At first there is DATASET 1, its TREE has a ROOT without ENTRIES, and no ORIGIN", x -> {
            due("kind", x.about(1, 1, 0), 2);
            due("ENTRIES", x.about(1, 1, 1), 0);
            due("entry", x.entry(1, 1, 0), -2);
            due("ORIGIN", x.told(1, 0), 0);
            due("SNAPSHOTS", x.told(1, 1), 0);
        });
    }

    private static void make() {
        holds(2, "A new FILE (kind 1) or DIRECTORY (2), with an ENTRY in a DIRECTORY of a TREE: its number", x -> {
            due("FILE", x.make(1, 1, 5, 1), 2);
            due("DIRECTORY", x.make(1, 1, 6, 2), 3);
            due("kind", x.about(1, 2, 0), 1);
            due("kind", x.about(1, 3, 0), 2);
            due("in it", x.make(1, 3, 5, 1), 4);
            due("its ENTRY", x.find(1, 3, 5), 4);
            due("LENGTH", x.about(1, 4, 1), 0);
            due("ENTRIES", x.about(1, 4, 2), 1);
        });
        holds(TERMS, "NAMES (1 .. 1000000), each once", x -> {
            due("the least", x.make(1, 1, 1, 1), 2);
            due("the greatest", x.make(1, 1, 1000000, 2), 3);
            due("the least in another one", x.make(1, 3, 1, 1), 4);
        });
        holds(TERMS, "A new NODE gets the least number that no NODE of the TREE has", x -> {
            addFiles(x, 1, 5);
            x.unlink(1, 1, 104);
            x.unlink(1, 1, 102);
            due("first", x.make(1, 1, 5, 2), 3);
            due("then", x.make(1, 3, 5, 1), 5);
            due("behind all", x.make(1, 1, 7, 1), 7);
        });
        holds(2, "A new FILE (kind 1) or DIRECTORY (2)", x -> {
            house(x);
            x.attribute(1, 2, 7, 7, true);
            x.own(1, 2, 3);
            x.rights(1, 2, 0);
            x.unlink(1, 1, 10);
            due("FILE", x.make(1, 1, 10, 1), 2);
            int[] file = {1, 0, 1, 0, 0, 0, 61, 0};
            for (int what = 0; what < 8; what++) {
                due("about " + what, x.about(1, 2, what), file[what]);
            }
            x.unlink(1, 1, 40);
            due("in place of a LINK", x.make(1, 1, 40, 1), 5);
            due("LENGTH", x.about(1, 5, 1), 0);
            due("no DIRECTORY", x.about(1, 5, 4), 0);
            x.cut(1, 5, 60);
            due("its bytes", x.read(1, 5, 59), 0);
            x.unlink(1, 1, 40);
            due("in place of a FILE", x.make(1, 1, 40, 2), 5);
            due("ENTRIES", x.about(1, 5, 1), 0);
        });
        holds(TERMS, "A TREE has NODES, numbered 1 .. 36", x -> {
            manyEntries(x);
            addFiles(x, 3, 9);
            due("35", x.told(1, 3), 35);
            due("the last", x.make(1, 3, 50, 1), 36);
            due("36", x.told(1, 3), 36);
            due("its kind", x.about(1, 36, 0), 1);
            due("its bytes", x.write(1, 36, 2159, 7, 1), 2160);
        });
        holds(TERMS, "A DIRECTORY has ENTRIES, 24 at most", x -> {
            house(x);
            addFiles(x, 1, 20);
            due("23", x.about(1, 1, 1), 23);
            due("the last", x.make(1, 1, 50, 2), 26);
            due("24", x.about(1, 1, 1), 24);
        });
        holds(TERMS, "Each NODE has an OWNER, the CALLER that made it (the ROOT has 0)", x -> {
            due("the ROOT's", x.about(1, 1, 5), 0);
            x.rights(1, 1, 63);
            x.as(7);
            x.make(1, 1, 5, 2);
            due("7", x.about(1, 2, 5), 7);
            due("the LINK", linkTo(x, 1, 6, true, 5), 3);
            due("its", x.about(1, 3, 5), 7);
        });
        holds(TERMS, "61 at first", x -> {
            house(x);
            for (int n = 1; n <= 5; n++) {
                due("RIGHTS", x.about(1, n, 6), 61);
            }
        });
    }

    /** The house with FILE 36 (NAME 110 in DIRECTORY 3), which alone has BLOCKS: two of SNAPSHOT 2, and it is kept. */
    private static void lastFile(PoolHouse x) {
        manyNodes(x);
        x.cut(1, 2, 0);
        x.write(1, 36, 59, 0x0102, 2);
        x.snapshot(1);
    }

    private static void lastNode() {
        String words = "A TREE has NODES, numbered 1 .. 36";
        holds(TERMS, words, x -> {
            lastFile(x);
            due("its BLOCKS", x.about(1, 36, 3), 2);
            due("held", x.held(1, false), 2);
            due("usage", x.usage(1, 0), 2);
            due("quota", x.quota(1, 1), -3);
            due("limit", x.limit(1, 0, 1), -3);
            x.write(1, 36, 59, 0x0304, 2);
            due("held alone", x.held(1, true), 2);
            due("differs", x.differs(1, -2, 0), 36);
            due("crash", x.crash(0), 1);
            due("as it was KEPT", x.read(1, 36, 60), 2);
            due("none alone", x.held(1, true), 0);
        });
        holds(TERMS, words, x -> {
            lastFile(x);
            x.cut(1, 36, 0);
            x.quota(1, 1);
            due("back has no room", x.back(1, 2), -4);
            x.quota(1, 2);
            due("back", x.back(1, 2), 1);
            due("its byte", x.read(1, 36, 60), 2);
            x.open(1, 36);
            x.unlink(1, 3, 110);
            due("without ENTRIES", x.about(1, 36, 2), 0);
            x.commit();
            x.crash(0);
            due("GONE", x.about(1, 36, 2), -1);
            x.clone(2);
            x.write(2, 36, 59, 0x0304, 2);
            due("what is held no more", x.destroy(2), 2);
            due("oddities", x.oddities(), 0);
        });
        holds(TERMS, words, x -> {
            manyNodes(x);
            x.snapshot(1);
            x.write(1, 36, 59, 0x0102, 2);
            x.snapshot(1);
            x.clone(2);
            x.send(2, 3);
            x.quota(2, 3);
            due("receive has no room", x.receive(2), -4);
            x.quota(2, 4);
            due("receive", x.receive(2), 2);
            due("its byte", x.read(2, 36, 60), 2);
            due("another TREE now", x.receive(2), -3);
            x.send(3, 2);
            due("receive", x.receive(2), 0);
            due("BLOCKS", x.held(2, false), 2);
            due("oddities", x.oddities(), 0);
        });
        holds(TERMS, words, x -> {
            manyNodes(x);
            x.write(1, 36, 0, 1, 1);
            x.snapshot(1);
            x.write(1, 36, 0, 2, 1);
            x.snapshot(1);
            x.send(2, 3);
            x.clone(2);
            x.write(2, 36, 0, 1, 1);
            for (int i = 0; i < 197; i++) {
                x.write(1, 6 + i / 18, i % 18 * 120 + 59, 3, 2);
            }
            x.write(1, 17, 0, 3, 1);
            due("400", x.held(0, false), 400);
            due("one goes, one comes", x.receive(2), 1);
            due("400", x.held(0, false), 400);
        });
    }

    private static void makeRefused() {
        refused(2, "-1 no such TREE or NODE", -1, Sentences::house, x -> x.make(0, 1, 50, 1), x -> x.make(2, 1, 50, 1),
            x -> x.make(-2, 1, 50, 1), x -> x.make(LEAST, 1, 50, 1), x -> x.make(GREATEST, 1, 50, 1),
            x -> x.make(1, 0, 50, 1), x -> x.make(1, -1, 50, 1), x -> x.make(1, 6, 50, 1), x -> x.make(1, 36, 50, 1),
            x -> x.make(1, 37, 50, 1), x -> x.make(1, LEAST, 50, 1), x -> x.make(1, GREATEST, 50, 1));
        refused(2, "-2 the name or kind is none", -2, Sentences::house, x -> x.make(1, 1, 0, 1),
            x -> x.make(1, 1, -1, 1), x -> x.make(1, 1, 1000001, 1), x -> x.make(1, 1, LEAST, 1),
            x -> x.make(1, 1, GREATEST, 1), x -> x.make(1, 1, 50, 0), x -> x.make(1, 1, 50, 3),
            x -> x.make(1, 1, 50, -1), x -> x.make(1, 1, 50, LEAST), x -> x.make(1, 1, 50, GREATEST));
        refused(2, "-3 the TREE is a SNAPSHOT's, or the NODE no DIRECTORY", -3, Sentences::house,
            x -> x.make(-1, 1, 50, 1), x -> x.make(1, 2, 50, 1), x -> x.make(1, 5, 50, 1));
        refused(2, "or the NODE no DIRECTORY, -5;", -5, Sentences::guest, x -> x.make(1, 1, 50, 1),
            x -> x.make(1, 3, 50, 2));
        refused(2, "-3 the NAME is there", -3, Sentences::house, x -> x.make(1, 1, 10, 1), x -> x.make(1, 1, 20, 2),
            x -> x.make(1, 1, 40, 1), x -> x.make(1, 3, 30, 1));
        refused(2, "-4 there are 24 ENTRIES", -4, Sentences::manyEntries, x -> x.make(1, 1, 50, 1),
            x -> x.make(1, 1, 50, 2));
        refused(2, "or 36 NODES", -4, Sentences::manyNodes, x -> x.make(1, 3, 50, 1), x -> x.make(1, 3, 50, 2));
        first(2, -1, Sentences::guest, x -> x.make(0, 1, 0, 0), x -> x.make(1, 6, 0, 1), x -> x.make(-1, 6, 50, 1));
        first(2, -2, Sentences::guest, x -> x.make(-1, 1, 0, 1), x -> x.make(1, 2, 50, 3), x -> x.make(1, 1, 0, 1));
        first(2, -3, Sentences::guest, x -> x.make(-1, 1, 50, 1), x -> x.make(1, 2, 50, 1));
        first(2, -5, Sentences::guest, x -> x.make(1, 1, 10, 1));
        first(2, -3, Sentences::manyNodes, x -> x.make(1, 1, 10, 1), x -> x.make(1, 3, 30, 1));
    }

    private static void step() {
        holds(3, "The PATH under way (none at first", x -> {
            due("walk", x.walk(1, 1, true), -2);
            due("first", x.step(1), 1);
        });
        holds(3, "gets a STEP more, a NAME or 0: how many it has", x -> {
            due("0", x.step(0), 1);
            due("the least NAME", x.step(1), 2);
            due("the greatest", x.step(1000000), 3);
            for (int i = 4; i <= 8; i++) {
                due("more", x.step(5), i);
            }
        });
        holds(3, "also behind makeLink() and walk()", x -> {
            house(x);
            due("behind makeLink()", x.step(5), 1);
            due("walk", x.walk(1, 1, true), -1);
            due("behind walk()", x.step(20), 1);
            due("walk", x.walk(1, 1, true), 3);
            due("behind walk()", x.step(20), 1);
        });
        holds(3, "but when these are refused because there is no such TREE or NODE", x -> {
            x.step(5);
            due("walk", x.walk(2, 1, true), -1);
            due("walk", x.walk(1, 2, true), -1);
            due("makeLink", x.makeLink(2, 1, 5, true), -1);
            due("makeLink", x.makeLink(1, 2, 5, true), -1);
            due("it stays", x.step(5), 2);
        });
        holds(3, "or by -2", x -> {
            x.step(5);
            due("makeLink", x.makeLink(1, 1, 0, true), -2);
            due("it stays", x.step(5), 2);
        });
        holds(3, "With -1 it is empty: 0", x -> {
            due("none", x.step(-1), 0);
            for (int i = 1; i <= 8; i++) {
                x.step(5);
            }
            due("full", x.step(-1), 0);
            due("first", x.step(0), 1);
        });
        refused(3, "-2 the step is none of these", -2, Sentences::house, x -> x.step(-2), x -> x.step(1000001),
            x -> x.step(LEAST), x -> x.step(GREATEST));
        refused(3, "-4 it has 8", -4, x -> steps(x, 1, 2, 3, 4, 5, 6, 7, 8), x -> x.step(1), x -> x.step(0),
            x -> x.step(1000000));
        first(3, -2, x -> steps(x, 1, 2, 3, 4, 5, 6, 7, 8), x -> x.step(-2), x -> x.step(1000001));
    }

    private static void makeLink() {
        holds(4, "A new LINK with the PATH under way, from the ROOT or not, and an ENTRY in a DIRECTORY: its number",
            x -> {
                house(x);
                due("not", linkTo(x, 3, 50, false, 0, 1000000), 6);
                due("kind", x.about(1, 6, 0), 3);
                due("begins", x.linked(1, 6, -1), 0);
                due("STEP 0", x.linked(1, 6, 0), 0);
                due("STEP 1", x.linked(1, 6, 1), 1000000);
                due("its ENTRY", x.find(1, 3, 50), 6);
                due("from the ROOT", linkTo(x, 1, 50, true, 7), 7);
                due("begins", x.linked(1, 7, -1), 1);
            });
        holds(TERMS, "A LINK has a PATH: 1 to 8 STEPS, each a NAME or 0", x -> {
            due("one", linkTo(x, 1, 5, true, 0), 2);
            due("LENGTH", x.about(1, 2, 1), 1);
            due("eight", linkTo(x, 1, 6, true, 1, 2, 3, 4, 5, 6, 7, 0), 3);
            due("LENGTH", x.about(1, 3, 1), 8);
            due("the last", x.linked(1, 3, 7), 0);
            due("the one before", x.linked(1, 3, 6), 7);
        });
    }

    private static void makeLinkRefused() {
        Run withPath = x -> {
            house(x);
            steps(x, 20);
        };
        Run pathGone = x -> x.step(-1);
        refused(4, "-1 no such TREE or NODE", -1, withPath, x -> x.makeLink(0, 1, 50, true),
            x -> x.makeLink(2, 1, 50, true), x -> x.makeLink(-2, 1, 50, true), x -> x.makeLink(1, 0, 50, true),
            x -> x.makeLink(1, 6, 50, true), x -> x.makeLink(1, 37, 50, true), x -> x.makeLink(1, LEAST, 50, true));
        refused(4, "-2 the name is none", -2, withPath, x -> x.makeLink(1, 1, 0, true),
            x -> x.makeLink(1, 1, 1000001, true), x -> x.makeLink(1, 1, LEAST, true),
            x -> x.makeLink(1, 1, GREATEST, true));
        refused(4, "or the PATH is empty", -2, Sentences::house, x -> x.makeLink(1, 1, 50, true),
            x -> x.makeLink(1, 3, 50, false));
        refusedBut(4, "-3, -5, -4 as of make()", -3, withPath, pathGone, x -> x.makeLink(-1, 1, 50, true),
            x -> x.makeLink(1, 2, 50, true), x -> x.makeLink(1, 5, 50, true), x -> x.makeLink(1, 1, 10, true),
            x -> x.makeLink(1, 1, 40, true));
        refusedBut(4, "-5, -4 as of make()", -5, x -> {
            guest(x);
            steps(x, 20);
        }, pathGone, x -> x.makeLink(1, 1, 50, true), x -> x.makeLink(1, 1, 10, true));
        refusedBut(4, "-4 as of make()", -4, x -> {
            manyEntries(x);
            steps(x, 20);
        }, pathGone, x -> x.makeLink(1, 1, 50, true));
        refusedBut(4, "-4 as of make()", -4, x -> {
            manyNodes(x);
            steps(x, 20);
        }, pathGone, x -> x.makeLink(1, 3, 50, true));
        first(4, -1, Sentences::guest, x -> x.makeLink(2, 1, 0, true), x -> x.makeLink(1, 6, 50, true));
        first(4, -2, Sentences::guest, x -> x.makeLink(-1, 1, 50, true), x -> x.makeLink(1, 2, 0, true));
        holds(3, "but when these are refused", x -> {
            house(x);
            steps(x, 20);
            due("-3", x.makeLink(1, 1, 10, true), -3);
            due("none", x.step(5), 1);
        });
    }

    private static void walk() {
        holds(5, "The NODE to which the PATH under way leads from a DIRECTORY", x -> {
            house(x);
            due("down", walked(x, 1, true, 20, 30), 4);
            due("from another one", walked(x, 3, true, 30), 4);
        });
        holds(5, "0 to the DIRECTORY above (of the ROOT itself)", x -> {
            house(x);
            due("above", walked(x, 3, true, 0), 1);
            due("of the ROOT", walked(x, 1, true, 0), 1);
            due("and on", walked(x, 3, true, 0, 0, 20), 3);
        });
        holds(5, "a NAME to what it means", x -> {
            due("the least", x.make(1, 1, 1, 2), 2);
            due("the greatest", x.make(1, 2, 1000000, 1), 3);
            due("eight STEPS", walked(x, 1, false, 1, 0, 1, 0, 1, 0, 1, 1000000), 3);
        });
        holds(5, "if that is a LINK, and it isn't the last STEP of all", x -> {
            house(x);
            due("not the last", walked(x, 1, false, 40, 30), 4);
            due("the last", walked(x, 1, false, 40), 5);
            linkTo(x, 1, 50, true, 40);
            due("last in its PATH, but not of all", walked(x, 1, false, 50, 30), 4);
            due("behind a LINK, the last of all", walked(x, 1, false, 50, 0, 40), 5);
        });
        holds(5, "or follow is told", x -> {
            house(x);
            due("followed", walked(x, 1, true, 40), 3);
            linkTo(x, 1, 50, true, 40);
            due("both", walked(x, 1, true, 50), 3);
            due("told, but no LINK", walked(x, 1, true, 10), 2);
        });
        holds(5, "its PATH is gone from where it begins, and then on", x -> {
            house(x);
            x.make(1, 3, 20, 2);
            linkTo(x, 3, 50, false, 20);
            linkTo(x, 3, 51, true, 20);
            linkTo(x, 3, 52, false, 0, 10);
            due("at the DIRECTORY that has its ENTRY", walked(x, 1, true, 20, 50), 6);
            due("at the ROOT", walked(x, 1, true, 20, 51), 3);
            due("above", walked(x, 1, true, 20, 52), 2);
            due("and then on", walked(x, 1, true, 20, 51, 50, 0, 30), 4);
        });
        holds(5, "-6 a ninth LINK would be followed", x -> {
            x.make(1, 1, 10, 2);
            for (int i = 1; i <= 8; i++) {
                linkTo(x, 1, 100 + i, true, i == 1 ? 10 : 99 + i);
            }
            due("eight", walked(x, 1, true, 108), 2);
            due("four and four", walked(x, 1, true, 104, 0, 104), 2);
            linkTo(x, 1, 109, true, 108);
            due("the ninth is not followed", walked(x, 1, false, 108, 0, 109), 11);
            due("nine", walked(x, 1, true, 109), -6);
            due("eight and one", walked(x, 1, true, 108, 0, 101), -6);
        });
        holds(5, "-6 a ninth LINK would be followed", x -> {
            linkTo(x, 1, 60, true, 60, 60, 60, 60, 60, 60, 60, 60);
            due("itself", walked(x, 1, true, 60), -6);
            due("not followed", walked(x, 1, false, 60), 2);
        });
        holds(TERMS, "walk() ENTER of each DIRECTORY looked up in", x -> {
            house(x);
            x.rights(1, 3, 60);
            x.as(1);
            due("not in this one", walked(x, 1, true, 20, 30), -5);
            due("nor without such a NAME", walked(x, 1, true, 20, 31), -5);
            due("but to it", walked(x, 1, true, 20), 3);
            due("by a LINK", walked(x, 1, true, 40, 30), -5);
        });
    }

    private static void walkRefused() {
        Run withPath = x -> {
            house(x);
            steps(x, 20);
        };
        Run pathGone = x -> x.step(-1);
        refused(5, "-1 no such TREE or NODE", -1, withPath, x -> x.walk(0, 1, true), x -> x.walk(2, 1, true),
            x -> x.walk(-2, 1, true), x -> x.walk(LEAST, 1, true), x -> x.walk(1, 0, true), x -> x.walk(1, 6, true),
            x -> x.walk(1, 37, true), x -> x.walk(1, GREATEST, true));
        refused(5, "-2 the PATH is empty", -2, Sentences::house, x -> x.walk(1, 1, true), x -> x.walk(-1, 2, false));
        refusedBut(5, "-3 a STEP from what is no DIRECTORY", -3, withPath, pathGone, x -> x.walk(1, 2, true),
            x -> x.walk(1, 5, true));
        refusedBut(5, "-3 a STEP from what is no DIRECTORY", -3, x -> {
            house(x);
            steps(x, 10, 20);
        }, pathGone, x -> x.walk(1, 1, true), x -> x.walk(1, 1, false), x -> x.walk(-1, 1, true));
        refusedBut(5, "-5 from one that the CALLER may not ENTER", -5, x -> {
            house(x);
            x.rights(1, 1, 62);
            x.as(1);
            steps(x, 20);
        }, pathGone, x -> x.walk(1, 1, true), x -> x.walk(1, 1, false));
        refusedBut(5, "-5 from one that the CALLER may not ENTER", -5, x -> {
            house(x);
            x.rights(1, 3, 62);
            x.as(1);
            steps(x, 0);
        }, pathGone, x -> x.walk(1, 3, true));
        refusedBut(5, "-1 there is no such NAME", -1, x -> {
            house(x);
            steps(x, 20, 31);
        }, pathGone, x -> x.walk(1, 1, true), x -> x.walk(1, 1, false), x -> x.walk(-1, 1, true));
        refusedBut(5, "-6 a ninth LINK would be followed", -6, x -> {
            linkTo(x, 1, 60, false, 60);
            steps(x, 60);
        }, pathGone, x -> x.walk(1, 1, true));
        holds(5, "then, as it goes", x -> {
            house(x);
            linkTo(x, 1, 50, true, 99);
            due("-1 first", walked(x, 1, true, 20, 31, 10, 10), -1);
            due("-3 first", walked(x, 1, true, 10, 31), -3);
            due("of a LINK's PATH", walked(x, 1, true, 50, 10), -1);
        });
        first(5, -1, Sentences::house, x -> x.walk(0, 1, true), x -> x.walk(1, 6, true));
        first(5, -2, Sentences::house, x -> x.walk(1, 2, true));
    }

    private static void linked() {
        holds(6, "STEP k, from 0, of a LINK", x -> {
            linkTo(x, 1, 5, true, 1, 0, 3, 4, 5, 6, 7, 1000000);
            due("0", x.linked(1, 2, 0), 1);
            due("1", x.linked(1, 2, 1), 0);
            due("7", x.linked(1, 2, 7), 1000000);
        });
        holds(6, "k = -1: 1 when it begins at the ROOT, otherwise 0", x -> {
            linkTo(x, 1, 5, true, 1);
            linkTo(x, 1, 6, false, 1);
            due("at the ROOT", x.linked(1, 2, -1), 1);
            due("not", x.linked(1, 3, -1), 0);
        });
        refused(6, "-1 no such TREE or NODE", -1, Sentences::house, x -> x.linked(0, 5, 0), x -> x.linked(2, 5, 0),
            x -> x.linked(-2, 5, 0), x -> x.linked(1, 0, 0), x -> x.linked(1, 6, -1), x -> x.linked(1, 37, -1));
        refused(6, "-3 no LINK", -3, Sentences::house, x -> x.linked(1, 1, 0), x -> x.linked(1, 2, -1),
            x -> x.linked(1, 4, 9));
        refused(6, "-2 there is no such STEP", -2, Sentences::house, x -> x.linked(1, 5, 1), x -> x.linked(1, 5, -2),
            x -> x.linked(1, 5, 8), x -> x.linked(-1, 5, 1), x -> x.linked(1, 5, LEAST), x -> x.linked(1, 5, GREATEST));
        refused(6, "-2 there is no such STEP", -2, x -> linkTo(x, 1, 5, true, 1, 2, 3, 4, 5, 6, 7, 8),
            x -> x.linked(1, 2, 8));
    }

    private static void find() {
        holds(7, "The NODE that a NAME means in a DIRECTORY", x -> {
            house(x);
            due("FILE", x.find(1, 1, 10), 2);
            due("DIRECTORY", x.find(1, 1, 20), 3);
            due("LINK", x.find(1, 1, 40), 5);
            due("of a SNAPSHOT", x.find(-1, 3, 30), 4);
        });
        refused(7, "-1 no such TREE or NODE", -1, Sentences::house, x -> x.find(0, 1, 10), x -> x.find(2, 1, 10),
            x -> x.find(-2, 1, 10), x -> x.find(1, 0, 10), x -> x.find(1, 6, 10), x -> x.find(1, 37, 10));
        refused(7, "-2 the name is none", -2, Sentences::house, x -> x.find(1, 1, 0), x -> x.find(1, 1, -1),
            x -> x.find(1, 1, 1000001), x -> x.find(1, 1, LEAST), x -> x.find(1, 1, GREATEST));
        refused(7, "-3 no DIRECTORY", -3, Sentences::house, x -> x.find(1, 2, 10), x -> x.find(1, 5, 10),
            x -> x.find(-1, 2, 10));
        refused(7, "-3 no DIRECTORY, -5;", -5, x -> {
            house(x);
            x.rights(1, 1, 62);
            x.as(1);
        }, x -> x.find(1, 1, 10), x -> x.find(1, 1, 11));
        refused(7, "-1 there is no such NAME", -1, Sentences::house, x -> x.find(1, 1, 30), x -> x.find(1, 3, 10),
            x -> x.find(-1, 1, 1), x -> x.find(1, 1, 1000000));
        first(7, -1, Sentences::house, x -> x.find(0, 2, 0), x -> x.find(1, 6, 0));
        first(7, -2, Sentences::house, x -> x.find(1, 2, 0));
        holds(TERMS, "find(), walk() ENTER of each DIRECTORY looked up in", x -> {
            house(x);
            x.rights(1, 1, 1);
            x.as(1);
            due("others may", x.find(1, 1, 10), 2);
        });
    }

    private static void write() {
        holds(8, "The lowest n bytes of v, the highest of these first, come to a FILE from byte at on", x -> {
            x.make(1, 1, 5, 1);
            for (int n = 1; n <= 8; n++) {
                due("write", x.write(1, 2, 10 * n, 0x0102030405060708L, n), 11 * n);
                for (int i = 0; i < n; i++) {
                    due("byte " + i + " of " + n, x.read(1, 2, 10 * n + i), 9 - n + i);
                }
                due("the one before", x.read(1, 2, 10 * n - 1), 0);
            }
        });
        holds(8, "The lowest n bytes of v", x -> {
            x.make(1, 1, 5, 1);
            x.write(1, 2, 1, -1, 1);
            x.write(1, 2, 3, Long.MIN_VALUE, 8);
            due("before", x.read(1, 2, 0), 0);
            due("of -1", x.read(1, 2, 1), 255);
            due("behind", x.read(1, 2, 2), 0);
            due("of the least long", x.read(1, 2, 3), 128);
            due("its last", x.read(1, 2, 10), 0);
        });
        holds(8, "its LENGTH then, which is no less than their end", x -> {
            x.make(1, 1, 5, 1);
            due("8", x.write(1, 2, 0, 1, 8), 8);
            due("within", x.write(1, 2, 0, 1, 1), 8);
            due("to its end", x.write(1, 2, 7, 1, 1), 8);
            due("one more", x.write(1, 2, 7, 1, 2), 9);
            due("the greatest", x.write(1, 2, 2152, 1, 8), 2160);
        });
        holds(8, "or at + n not 1 .. 2160 with at not below 0", x -> {
            x.make(1, 1, 5, 1);
            due("the least", x.write(1, 2, 0, 7, 1), 1);
            due("the last", x.write(1, 2, 2159, 8, 1), 2160);
            due("first byte", x.read(1, 2, 0), 7);
            due("last byte", x.read(1, 2, 2159), 8);
            due("eight at the end", x.write(1, 2, 2152, 9, 8), 2160);
            due("last byte", x.read(1, 2, 2159), 9);
        });
        holds(TERMS, "byte i lies in its PIECE i / 60", x -> {
            x.make(1, 1, 5, 1);
            x.write(1, 2, 59, 1, 1);
            due("one", x.about(1, 2, 3), 1);
            x.write(1, 2, 60, 1, 1);
            due("two", x.about(1, 2, 3), 2);
            x.write(1, 2, 119, 0x0203, 2);
            due("three", x.about(1, 2, 3), 3);
            due("byte", x.read(1, 2, 120), 3);
        });
        holds(TERMS, "Each PIECE is a HOLE, all of its bytes being 0, or a BLOCK", x -> {
            x.make(1, 1, 5, 1);
            x.write(1, 2, 2159, 1, 1);
            due("one BLOCK", x.about(1, 2, 3), 1);
            due("HOLE", x.read(1, 2, 0), 0);
            due("HOLE", x.read(1, 2, 2099), 0);
            due("BLOCK", x.read(1, 2, 2100), 0);
        });
        holds(TERMS, "(also if its bytes stay the same)", x -> {
            house(x);
            due("write", x.write(1, 2, 60, 2, 1), 61);
            due("a new one", x.held(1, true), 1);
            due("both", x.held(0, false), 3);
        });
    }

    private static void writeRefused() {
        refused(8, "-1 no such TREE or NODE", -1, Sentences::house, x -> x.write(0, 2, 0, 1, 1),
            x -> x.write(2, 2, 0, 1, 1), x -> x.write(-2, 2, 0, 1, 1), x -> x.write(1, 0, 0, 1, 1),
            x -> x.write(1, 6, 0, 1, 1), x -> x.write(1, 37, 0, 1, 1), x -> x.write(1, LEAST, 0, 1, 1));
        refused(8, "-2 n is not 1 .. 8", -2, Sentences::house, x -> x.write(1, 2, 0, 1, 0),
            x -> x.write(1, 2, 1, 1, 0), x -> x.write(1, 2, 0, 1, 9), x -> x.write(1, 2, 5, 1, -1),
            x -> x.write(1, 2, 5, 1, LEAST), x -> x.write(1, 2, 5, 1, GREATEST));
        refused(8, "or at + n not 1 .. 2160 with at not below 0", -2, Sentences::house,
            x -> x.write(1, 2, -1, 1, 2), x -> x.write(1, 2, -1, 1, 8), x -> x.write(1, 2, 2160, 1, 1),
            x -> x.write(1, 2, 2159, 1, 2), x -> x.write(1, 2, 2153, 1, 8), x -> x.write(1, 2, LEAST, 1, 1),
            x -> x.write(1, 2, LEAST, 1, 8), x -> x.write(1, 2, GREATEST, 1, 1), x -> x.write(1, 2, GREATEST, 1, 8),
            x -> x.write(1, 2, GREATEST - 7, 1, 8));
        refused(8, "-3 a SNAPSHOT, no FILE", -3, Sentences::house, x -> x.write(-1, 2, 0, 1, 1),
            x -> x.write(1, 1, 0, 1, 1), x -> x.write(1, 3, 0, 1, 1), x -> x.write(1, 5, 0, 1, 1));
        refused(TERMS, "write(), cut() WRITE", -5, Sentences::guest, x -> x.write(1, 2, 0, 1, 1),
            x -> x.write(1, 4, 0, 1, 1));
        first(8, -1, Sentences::guest, x -> x.write(0, 2, 0, 1, 0), x -> x.write(1, 6, -1, 1, 1));
        first(8, -2, Sentences::guest, x -> x.write(-1, 2, 0, 1, 0), x -> x.write(1, 3, 2160, 1, 1));
        first(8, -3, Sentences::guest, x -> x.write(-1, 2, 0, 1, 1), x -> x.write(1, 1, 0, 1, 1));
        first(8, -5, x -> {
            house(x);
            x.quota(1, 2);
            x.as(1);
        }, x -> x.write(1, 2, 120, 1, 1));
    }

    private static void writeRoom() {
        refused(8, "-4 BLOCKS, QUOTA", -4, Sentences::full, x -> x.write(2, 4, 1680, 1, 1),
            x -> x.write(1, 2, 0, 1, 1), x -> x.write(1, 2, 59, 1, 2), x -> x.write(1, 4, 1679, 1, 2));
        refused(8, "-4 BLOCKS, QUOTA", -4, x -> {
            house(x);
            x.quota(1, 3);
        }, x -> x.write(1, 2, 179, 1, 2), x -> x.write(1, 4, 59, 1, 2));
        holds(TERMS, "At most 400 BLOCKS are held by all TREES of DATASETS and SNAPSHOTS together", x -> {
            full(x);
            due("400", x.held(0, false), 400);
            due("instead of its own", x.write(2, 2, 59, 1, 2), 2101);
            x.cut(3, 4, 1620);
            due("399", x.held(0, false), 399);
            due("no room for two", x.write(2, 4, 1739, 1, 2), -4);
            due("room for one", x.write(2, 4, 1680, 1, 1), 1681);
            due("400", x.held(0, false), 400);
            due("no more", x.write(2, 4, 1740, 1, 1), -4);
        });
        holds(TERMS, "each counted once", x -> {
            full(x);
            x.cut(3, 4, 1560);
            due("398", x.held(0, false), 398);
            due("what SNAPSHOT 2 has, too", x.write(1, 2, 59, 1, 2), 2101);
            due("400", x.held(0, false), 400);
            due("now its own", x.write(1, 2, 59, 1, 2), 2101);
            due("another one", x.write(1, 2, 119, 1, 2), -4);
        });
        holds(TERMS, "a DATASET's own TREE has no more than its QUOTA (at first 400)", x -> {
            house(x);
            x.quota(1, 3);
            due("the last", x.write(1, 2, 120, 1, 1), 121);
            due("one more", x.write(1, 2, 180, 1, 1), -4);
            due("in another FILE", x.write(1, 4, 0, 1, 1), -4);
            due("instead", x.write(1, 2, 119, 1, 2), 121);
            x.clone(1);
            due("another one's QUOTA", x.write(2, 2, 179, 1, 2), 181);
        });
        holds(TERMS, "no more than its QUOTA (at first 400)", x -> {
            full(x);
            x.destroy(2);
            x.destroy(3);
            x.destroy(4);
            addFiles(x, 1, 9);
            for (int i = 0; i < 150; i++) {
                x.write(1, 5 + i / 18, i % 18 * 120 + 59, 0x0102, 2);
            }
            due("400", x.held(1, false), 400);
            due("no room for more", x.write(1, 13, 2000, 1, 1), -4);
        });
        holds(TERMS, "FILES of that OWNER have no more BLOCKS together in its TREE", x -> {
            house(x);
            x.own(1, 2, 3);
            x.limit(1, 3, 3);
            due("the last", x.write(1, 2, 120, 1, 1), 121);
            due("one more", x.write(1, 2, 180, 1, 1), -4);
            due("another one's FILE", x.write(1, 4, 0, 1, 1), 1);
            x.own(1, 4, 0);
            x.rights(1, 4, 63);
            x.as(3);
            due("it is the OWNER's that counts", x.write(1, 4, 60, 1, 1), 61);
            x.as(0);
            x.cut(1, 2, 0);
            due("own", x.own(1, 4, 3), 0);
            due("together", x.write(1, 2, 59, 1, 2), -4);
            due("together", x.write(1, 2, 0, 1, 1), 1);
        });
        holds(TERMS, "what adds none is not refused for these", x -> {
            house(x);
            x.cut(1, 2, 0);
            x.limit(1, 0, 1);
            due("back() does not look at it", x.back(1, 1), 1);
            due("instead of one", x.write(1, 2, 0, 1, 1), 61);
            due("instead of two", x.write(1, 2, 59, 1, 2), 61);
            due("one more", x.write(1, 2, 119, 1, 2), -4);
            due("less", x.cut(1, 2, 60), 61);
            due("no more again", x.write(1, 2, 60, 1, 1), -4);
            due("none", x.cut(1, 2, 0), 60);
            due("one", x.write(1, 2, 60, 1, 1), 61);
        });
    }

    private static void read() {
        holds(9, "Byte at of a FILE, 0 .. 255", x -> {
            x.make(1, 1, 5, 1);
            x.write(1, 2, 0, 0x007f80ffL, 4);
            due("0", x.read(1, 2, 0), 0);
            due("127", x.read(1, 2, 1), 127);
            due("128", x.read(1, 2, 2), 128);
            due("255", x.read(1, 2, 3), 255);
            x.cut(1, 2, 2160);
            due("the last", x.read(1, 2, 2159), 0);
        });
        refused(9, "-1 no such TREE or NODE", -1, Sentences::house, x -> x.read(0, 2, 0), x -> x.read(2, 2, 0),
            x -> x.read(-2, 2, 0), x -> x.read(1, 0, 0), x -> x.read(1, 6, 0), x -> x.read(1, 37, 0));
        refused(9, "-3 no FILE", -3, Sentences::house, x -> x.read(1, 1, 0), x -> x.read(1, 5, 0),
            x -> x.read(-1, 3, 0), x -> x.read(1, 3, -1), x -> x.read(1, 3, 2160));
        refused(9, "-2 at is below 0", -2, Sentences::house, x -> x.read(1, 2, -1), x -> x.read(1, 2, LEAST));
        refused(9, "or not below the LENGTH", -2, Sentences::house, x -> x.read(1, 2, 61), x -> x.read(1, 4, 0),
            x -> x.read(1, 2, 2160), x -> x.read(1, 2, GREATEST), x -> x.read(-1, 2, 61));
        refused(9, "or not below the LENGTH", -2, x -> {
            house(x);
            x.cut(1, 2, 2160);
        }, x -> x.read(1, 2, 2160));
        refused(9, "-5.", -5, x -> {
            house(x);
            x.rights(1, 2, 59);
            x.as(1);
        }, x -> x.read(1, 2, 0), x -> x.read(1, 2, 60));
        holds(9, "or not below the LENGTH, -5", x -> {
            house(x);
            x.rights(1, 2, 59);
            x.rights(1, 3, 59);
            x.as(1);
            due("-2 first", x.read(1, 2, 61), -2);
            due("-3 first", x.read(1, 3, -1), -3);
            due("-1 first", x.read(1, 6, -1), -1);
        });
        holds(TERMS, "read() READ of the FILE", x -> {
            house(x);
            x.rights(1, 2, 4);
            x.as(1);
            due("others may", x.read(1, 2, 60), 2);
        });
    }

    private static void cut() {
        holds(10, "A FILE's LENGTH becomes another one: what it was", x -> {
            x.make(1, 1, 5, 1);
            due("the greatest", x.cut(1, 2, 2160), 0);
            due("the same", x.cut(1, 2, 2160), 2160);
            due("less", x.cut(1, 2, 1), 2160);
            due("the least", x.cut(1, 2, 0), 1);
            due("the same", x.cut(1, 2, 0), 0);
            due("LENGTH", x.about(1, 2, 1), 0);
        });
        holds(10, "PIECES that lie behind it wholly are HOLES then", x -> {
            house(x);
            x.cut(1, 2, 60);
            due("one", x.about(1, 2, 3), 1);
            due("the same", x.held(1, true), 0);
            x.write(1, 2, 60, 1, 1);
            x.cut(1, 2, 61);
            due("two", x.about(1, 2, 3), 2);
            x.cut(1, 2, 59);
            due("one", x.about(1, 2, 3), 1);
            x.cut(1, 2, 0);
            due("none", x.about(1, 2, 3), 0);
            x.cut(1, 2, 61);
            due("0", x.read(1, 2, 60), 0);
            due("still none", x.about(1, 2, 3), 0);
        });
        holds(10, "where it ends within one that is a BLOCK, and gets less than it was, that becomes a new BLOCK", x -> {
            house(x);
            x.cut(1, 2, 62);
            due("more", x.held(1, true), 0);
            x.cut(1, 2, 62);
            due("the same", x.held(1, true), 0);
            x.cut(1, 2, 61);
            due("less", x.held(1, true), 1);
            due("byte", x.read(1, 2, 60), 2);
            x.snapshot(1);
            x.cut(1, 2, 60);
            due("not within one", x.held(1, true), 0);
            x.cut(1, 2, 30);
            due("within one", x.held(1, true), 1);
            x.cut(1, 2, 2000);
            x.cut(1, 2, 1990);
            due("within a HOLE", x.about(1, 2, 3), 1);
        });
        holds(TERMS, "the bytes of a PIECE behind the LENGTH are 0", x -> {
            house(x);
            x.write(1, 2, 0, -1, 8);
            x.cut(1, 2, 1);
            x.cut(1, 2, 60);
            due("it stays", x.read(1, 2, 0), 255);
            due("0", x.read(1, 2, 1), 0);
            due("0", x.read(1, 2, 59), 0);
            due("the SNAPSHOT's stays", x.read(-1, 2, 59), 1);
        });
    }

    private static void cutRefused() {
        refused(10, "-1 no such TREE or NODE", -1, Sentences::house, x -> x.cut(0, 2, 0), x -> x.cut(2, 2, 0),
            x -> x.cut(-2, 2, 0), x -> x.cut(1, 0, 0), x -> x.cut(1, 6, 0), x -> x.cut(1, 37, 0));
        refused(10, "-2 the length is not 0 .. 2160", -2, Sentences::house, x -> x.cut(1, 2, -1),
            x -> x.cut(1, 2, 2161), x -> x.cut(1, 2, LEAST), x -> x.cut(1, 2, GREATEST));
        refused(10, "-3 a SNAPSHOT, no FILE", -3, Sentences::house, x -> x.cut(-1, 2, 0), x -> x.cut(1, 1, 0),
            x -> x.cut(1, 3, 0), x -> x.cut(1, 5, 0));
        refused(TERMS, "write(), cut() WRITE", -5, Sentences::guest, x -> x.cut(1, 2, 0), x -> x.cut(1, 2, 61));
        refused(10, "-4 BLOCKS", -4, Sentences::full, x -> x.cut(1, 2, 2100 - 1), x -> x.cut(1, 2, 2041),
            x -> x.cut(1, 2, 1));
        first(10, -1, Sentences::guest, x -> x.cut(0, 2, -1), x -> x.cut(1, 6, -1));
        first(10, -2, Sentences::guest, x -> x.cut(-1, 2, -1), x -> x.cut(1, 1, 2161));
        first(10, -3, Sentences::guest, x -> x.cut(-1, 2, 1), x -> x.cut(1, 1, 1));
        first(10, -5, x -> {
            full(x);
            x.as(1);
        }, x -> x.cut(1, 2, 1));
        holds(TERMS, "(looked at when all of the call would be done)", x -> {
            full(x);
            due("none goes, none comes", x.cut(1, 2, 2040), 2101);
            due("one goes, one comes", x.cut(2, 2, 2041), 2101);
            due("399", x.held(0, false), 399);
            due("more", x.cut(1, 2, 2160), 2040);
            due("one comes", x.cut(1, 2, 1981), 2160);
            due("400", x.held(0, false), 400);
            due("one goes, one comes", x.cut(1, 2, 1921), 1981);
            due("one would come", x.cut(1, 3, 2041), -4);
            due("own ones go, one comes", x.cut(2, 3, 1), 2101);
        });
        holds(10, "-4 BLOCKS", x -> {
            house(x);
            x.quota(1, 2);
            x.limit(1, 0, 2);
            due("the QUOTA is not passed", x.cut(1, 2, 30), 61);
        });
    }

    private static void link() {
        holds(11, "One more ENTRY for a FILE: how many it has then", x -> {
            house(x);
            due("the least NAME", x.link(1, 2, 3, 1), 2);
            due("the greatest", x.link(1, 2, 1, 1000000), 3);
            due("find", x.find(1, 3, 1), 2);
            due("ENTRIES", x.about(1, 2, 2), 3);
        });
        holds(TERMS, "a FILE any number of them from 0 to 9", x -> {
            house(x);
            for (int i = 2; i <= 9; i++) {
                due("one more", x.link(1, 2, 3, 100 + i), i);
            }
            x.open(1, 4);
            x.unlink(1, 3, 30);
            due("none", x.about(1, 4, 2), 0);
            due("one again", x.link(1, 4, 3, 30), 1);
        });
    }

    private static void linkRefused() {
        refused(11, "-1 no such TREE or NODE (of both)", -1, Sentences::house, x -> x.link(0, 2, 3, 50),
            x -> x.link(2, 2, 3, 50), x -> x.link(-2, 2, 3, 50), x -> x.link(1, 0, 3, 50), x -> x.link(1, 6, 3, 50),
            x -> x.link(1, 37, 3, 50), x -> x.link(1, 2, 0, 50), x -> x.link(1, 2, 6, 50), x -> x.link(1, 2, 37, 50));
        refused(11, "-2 the name is none", -2, Sentences::house, x -> x.link(1, 2, 3, 0), x -> x.link(1, 2, 3, -1),
            x -> x.link(1, 2, 3, 1000001), x -> x.link(1, 2, 3, LEAST), x -> x.link(1, 2, 3, GREATEST));
        refused(11, "-3 a SNAPSHOT, no FILE, no DIRECTORY", -3, Sentences::house, x -> x.link(-1, 2, 3, 50),
            x -> x.link(1, 3, 1, 50), x -> x.link(1, 5, 1, 50), x -> x.link(1, 1, 3, 50), x -> x.link(1, 2, 2, 50),
            x -> x.link(1, 2, 4, 50), x -> x.link(1, 2, 5, 50));
        refused(11, "no DIRECTORY, -5;", -5, Sentences::guest, x -> x.link(1, 2, 3, 50), x -> x.link(1, 4, 1, 50));
        refused(11, "-3 the NAME is there", -3, Sentences::house, x -> x.link(1, 2, 1, 10), x -> x.link(1, 2, 1, 20),
            x -> x.link(1, 2, 3, 30));
        Run nine = x -> {
            house(x);
            for (int i = 2; i <= 9; i++) {
                x.link(1, 2, 3, 100 + i);
            }
        };
        refused(11, "-4 it has 9", -4, nine, x -> x.link(1, 2, 3, 50), x -> x.link(1, 2, 1, 50));
        refused(11, "or the DIRECTORY 24", -4, Sentences::manyEntries, x -> x.link(1, 2, 1, 50),
            x -> x.link(1, 4, 1, 50));
        first(11, -1, Sentences::guest, x -> x.link(0, 2, 3, 0), x -> x.link(1, 6, 2, 0), x -> x.link(1, 3, 6, 0));
        first(11, -2, Sentences::guest, x -> x.link(-1, 2, 3, 0), x -> x.link(1, 3, 1, 0), x -> x.link(1, 2, 2, 0));
        first(11, -3, Sentences::guest, x -> x.link(-1, 2, 3, 50), x -> x.link(1, 3, 1, 50), x -> x.link(1, 2, 2, 50));
        first(11, -5, Sentences::guest, x -> x.link(1, 2, 1, 10));
        first(11, -3, nine, x -> x.link(1, 2, 1, 10));
        first(11, -3, Sentences::manyEntries, x -> x.link(1, 2, 1, 10));
    }

    private static void unlink() {
        holds(12, "An ENTRY is taken out: the NODE that it meant", x -> {
            house(x);
            x.link(1, 2, 3, 50);
            due("one of two", x.unlink(1, 1, 10), 2);
            due("find", x.find(1, 1, 10), -1);
            due("the other one", x.find(1, 3, 50), 2);
            due("ENTRIES", x.about(1, 2, 2), 1);
            due("BLOCKS", x.about(1, 2, 3), 2);
        });
        holds(12, "a DIRECTORY or LINK that it meant is GONE", x -> {
            house(x);
            due("FILE", x.unlink(1, 3, 30), 4);
            due("DIRECTORY", x.unlink(1, 1, 20), 3);
            due("LINK", x.unlink(1, 1, 40), 5);
            due("NODES", x.told(1, 3), 2);
            due("DIRECTORY", x.about(1, 3, 0), -1);
            due("LINK", x.about(1, 5, 0), -1);
        });
        holds(TERMS, "A FILE without ENTRIES that no HANDLE is open for is GONE, at the end of the call by which it "
            + "came so; its BLOCKS are this TREE's no more", x -> {
                house(x);
                due("unlink", x.unlink(1, 1, 10), 2);
                due("NODE", x.about(1, 2, 0), -1);
                due("BLOCKS", x.held(1, false), 0);
                due("the SNAPSHOT's", x.held(-1, true), 2);
            });
    }

    private static void unlinkRefused() {
        refused(12, "-1 no such TREE or NODE", -1, Sentences::house, x -> x.unlink(0, 1, 10), x -> x.unlink(2, 1, 10),
            x -> x.unlink(-2, 1, 10), x -> x.unlink(1, 0, 10), x -> x.unlink(1, 6, 10), x -> x.unlink(1, 37, 10));
        refused(12, "-2 the name is none", -2, Sentences::house, x -> x.unlink(1, 1, 0), x -> x.unlink(1, 1, -1),
            x -> x.unlink(1, 1, 1000001), x -> x.unlink(1, 1, LEAST), x -> x.unlink(1, 1, GREATEST));
        refused(12, "-3 a SNAPSHOT, no DIRECTORY", -3, Sentences::house, x -> x.unlink(-1, 1, 10),
            x -> x.unlink(1, 2, 10), x -> x.unlink(1, 5, 10));
        refused(12, "no DIRECTORY, -5;", -5, Sentences::guest, x -> x.unlink(1, 1, 10), x -> x.unlink(1, 3, 30));
        refused(12, "-1 there is no such NAME", -1, Sentences::house, x -> x.unlink(1, 1, 30),
            x -> x.unlink(1, 3, 10), x -> x.unlink(1, 1, 1000000));
        refused(12, "-3 it means a DIRECTORY with ENTRIES", -3, Sentences::house, x -> x.unlink(1, 1, 20));
        first(12, -1, Sentences::guest, x -> x.unlink(0, 1, 0), x -> x.unlink(1, 6, 0));
        first(12, -2, Sentences::guest, x -> x.unlink(-1, 1, 0), x -> x.unlink(1, 2, 0));
        first(12, -3, Sentences::guest, x -> x.unlink(-1, 1, 99), x -> x.unlink(1, 2, 99));
        first(12, -5, Sentences::guest, x -> x.unlink(1, 1, 99), x -> x.unlink(1, 1, 20));
    }

    private static void rename() {
        holds(13, "An ENTRY of a DIRECTORY becomes one of another one (or the same) with another NAME (or the same): "
            + "the NODE that it means", x -> {
                house(x);
                due("another one", x.rename(1, 1, 10, 3, 10), 2);
                due("there", x.find(1, 3, 10), 2);
                due("here", x.find(1, 1, 10), -1);
                due("the same", x.rename(1, 3, 10, 3, 1), 2);
                due("there", x.find(1, 3, 1), 2);
                due("not any more", x.find(1, 3, 10), -1);
                due("both others", x.rename(1, 3, 1, 1, 1000000), 2);
                due("there", x.find(1, 1, 1000000), 2);
                    due("ENTRIES", x.about(1, 2, 2), 1);
                due("of a FILE no DIRECTORY", x.about(1, 2, 4), 0);
            });
        holds(13, "with another NAME (or the same)", x -> {
            house(x);
            x.unlink(1, 1, 40);
            due("a NAME that was there", x.rename(1, 1, 10, 1, 40), 2);
            due("ENTRIES", x.about(1, 1, 1), 2);
            due("there", x.entry(1, 1, 1), 40);
            x.unlink(1, 3, 30);
            due("in another one", x.rename(1, 1, 40, 3, 30), 2);
            due("ENTRIES", x.about(1, 1, 1), 1);
            due("ENTRIES", x.about(1, 3, 1), 1);
        });
        holds(13, "An ENTRY of a DIRECTORY becomes one of another one", x -> {
            house(x);
            x.make(1, 1, 60, 2);
            due("LINK", x.rename(1, 1, 40, 6, 40), 5);
            due("its DIRECTORY", x.about(1, 5, 4), 6);
            due("DIRECTORY", x.rename(1, 1, 20, 6, 20), 3);
            due("its DIRECTORY", x.about(1, 3, 4), 6);
            due("what is above", walked(x, 3, true, 0), 6);
        });
        holds(13, "if from and to are one, and both names, nothing more is looked at, and nothing done", x -> {
            house(x);
            due("FILE", x.rename(1, 1, 10, 1, 10), 2);
            due("DIRECTORY", x.rename(1, 1, 20, 1, 20), 3);
            due("LINK", x.rename(1, 1, 40, 1, 40), 5);
            due("the same", x.differs(1, -1, 0), -2);
            due("ACTS all the same", x.commit(), 3);
        });
        holds(13, "An ENTRY with that NAME in to is taken out before, as by unlink()", x -> {
            house(x);
            due("FILE over FILE", x.rename(1, 3, 30, 1, 10), 4);
            due("GONE", x.about(1, 2, 0), -1);
            due("its BLOCKS", x.held(1, false), 0);
            due("the NAME once", x.about(1, 1, 1), 3);
            due("the next NAME", x.entry(1, 1, 1), 20);
            due("LINK over FILE", x.rename(1, 1, 40, 1, 10), 5);
            due("GONE", x.about(1, 4, 0), -1);
            x.make(1, 1, 50, 1);
            due("FILE over LINK", x.rename(1, 1, 50, 1, 10), 2);
            due("GONE", x.about(1, 5, 0), -1);
            due("NODES", x.told(1, 3), 3);
            x.link(1, 2, 3, 51);
            x.make(1, 1, 52, 1);
            due("over one of two", x.rename(1, 1, 52, 3, 51), 4);
            due("one is left", x.about(1, 2, 2), 1);
        });
        holds(13, "if both mean the same NODE, the first ENTRY goes alone", x -> {
            house(x);
            x.link(1, 2, 3, 50);
            due("in two", x.rename(1, 1, 10, 3, 50), 2);
            due("the first", x.find(1, 1, 10), -1);
            due("the second", x.find(1, 3, 50), 2);
            due("ENTRIES", x.about(1, 2, 2), 1);
            x.link(1, 2, 3, 51);
            due("in one", x.rename(1, 3, 50, 3, 51), 2);
            due("the first", x.find(1, 3, 50), -1);
            due("ENTRIES", x.about(1, 2, 2), 1);
        });
    }

    private static void renameRefused() {
        refused(13, "-1 no such TREE or NODE (from, then to)", -1, Sentences::house, x -> x.rename(0, 1, 10, 3, 50),
            x -> x.rename(2, 1, 10, 3, 50), x -> x.rename(-2, 1, 10, 3, 50), x -> x.rename(1, 0, 10, 3, 50),
            x -> x.rename(1, 6, 10, 3, 50), x -> x.rename(1, 37, 10, 3, 50), x -> x.rename(1, 1, 10, 0, 50),
            x -> x.rename(1, 1, 10, 6, 50), x -> x.rename(1, 1, 10, 37, 50), x -> x.rename(1, 6, 10, 6, 10));
        refused(13, "-2 one of the names is none", -2, Sentences::house, x -> x.rename(1, 1, 0, 3, 50),
            x -> x.rename(1, 1, 1000001, 3, 50), x -> x.rename(1, 1, LEAST, 3, 50), x -> x.rename(1, 1, 10, 3, 0),
            x -> x.rename(1, 1, 10, 3, 1000001), x -> x.rename(1, 1, 10, 3, GREATEST), x -> x.rename(1, 1, 0, 1, 0));
        refused(13, "-3 a SNAPSHOT, no DIRECTORY (of both)", -3, Sentences::house, x -> x.rename(-1, 1, 10, 3, 50),
            x -> x.rename(-1, 1, 10, 1, 10), x -> x.rename(1, 2, 10, 3, 50), x -> x.rename(1, 5, 10, 3, 50),
            x -> x.rename(1, 1, 10, 2, 50), x -> x.rename(1, 1, 10, 5, 50));
        refused(13, "no DIRECTORY (of both), -5;", -5, Sentences::guest, x -> x.rename(1, 1, 10, 3, 50),
            x -> x.rename(1, 1, 10, 1, 50), x -> x.rename(1, 1, 10, 1, 10));
        refused(13, "no DIRECTORY (of both), -5;", -5, x -> {
            house(x);
            x.rights(1, 3, 3);
            x.as(1);
        }, x -> x.rename(1, 1, 10, 3, 50), x -> x.rename(1, 3, 30, 1, 50));
        first(13, -1, Sentences::guest, x -> x.rename(0, 1, 0, 3, 0), x -> x.rename(1, 6, 0, 2, 50),
            x -> x.rename(1, 2, 0, 6, 50));
        first(13, -2, Sentences::guest, x -> x.rename(-1, 1, 0, 3, 50), x -> x.rename(1, 2, 10, 3, 0),
            x -> x.rename(1, 1, 0, 2, 50));
        first(13, -3, Sentences::guest, x -> x.rename(-1, 1, 99, 3, 50), x -> x.rename(1, 2, 10, 3, 50),
            x -> x.rename(1, 1, 99, 2, 50));
        first(13, -5, Sentences::guest, x -> x.rename(1, 1, 99, 3, 50), x -> x.rename(1, 1, 20, 3, 50));
    }

    private static void renameNames() {
        refused(13, "-1 there is no such NAME in from", -1, Sentences::house, x -> x.rename(1, 1, 30, 3, 50),
            x -> x.rename(1, 3, 10, 1, 50), x -> x.rename(1, 1, 30, 1, 30), x -> x.rename(1, 1, 30, 3, 30));
        refused(13, "-3 it means a DIRECTORY in or below which to lies", -3, x -> {
            house(x);
            x.make(1, 3, 60, 2);
            x.make(1, 6, 61, 2);
        }, x -> x.rename(1, 1, 20, 3, 50), x -> x.rename(1, 1, 20, 6, 50), x -> x.rename(1, 1, 20, 7, 50),
            x -> x.rename(1, 3, 60, 6, 50), x -> x.rename(1, 3, 60, 7, 50), x -> x.rename(1, 1, 20, 3, 30));
        refused(13, "-3 the NAME is in to and means a DIRECTORY", -3, x -> {
            house(x);
            x.make(1, 1, 60, 2);
        }, x -> x.rename(1, 1, 10, 1, 20), x -> x.rename(1, 1, 40, 1, 60), x -> x.rename(1, 1, 60, 1, 20),
            x -> x.rename(1, 3, 30, 1, 60));
        refused(13, "or something else while the moved one is a DIRECTORY", -3, x -> {
            house(x);
            x.make(1, 1, 60, 2);
        }, x -> x.rename(1, 1, 60, 1, 10), x -> x.rename(1, 1, 60, 1, 40), x -> x.rename(1, 1, 60, 3, 30));
        Run manyInThree = x -> {
            house(x);
            x.make(1, 1, 60, 2);
            addFiles(x, 3, 23);
        };
        refused(13, "-4 to has 24 ENTRIES (and is not from, and has not that NAME)", -4, manyInThree,
            x -> x.rename(1, 1, 10, 3, 50), x -> x.rename(1, 1, 40, 3, 50), x -> x.rename(1, 1, 60, 3, 50));
        first(13, -3, manyInThree, x -> x.rename(1, 1, 60, 3, 30), x -> x.rename(1, 1, 20, 3, 50));
        holds(13, "-4 to has 24 ENTRIES (and is not from, and has not that NAME)", x -> {
            manyInThree.on(x);
            due("24", x.about(1, 3, 1), 24);
            due("is from", x.rename(1, 3, 30, 3, 31), 4);
            due("has that NAME", x.rename(1, 1, 10, 3, 101), 2);
            due("has not", x.rename(1, 1, 40, 3, 50), -4);
            x.unlink(1, 3, 102);
            due("23", x.rename(1, 1, 40, 3, 50), 5);
        });
    }

    private static void about() {
        Run stage = x -> {
            house(x);
            x.link(1, 2, 3, 50);
            x.own(1, 2, 7);
            x.rights(1, 2, 1);
            x.attribute(1, 2, 9, 9, true);
        };
        holds(14, "what = 0 its kind", x -> eachNode(x, stage, 0, 2, 1, 2, 1, 3));
        holds(14, "1 LENGTH (of a DIRECTORY how many ENTRIES)", x -> eachNode(x, stage, 1, 3, 61, 2, 0, 1));
        holds(14, "2 how many ENTRIES mean it (of the ROOT 0)", x -> eachNode(x, stage, 2, 0, 2, 1, 1, 1));
        holds(14, "3 how many of its PIECES are BLOCKS", x -> eachNode(x, stage, 3, 0, 2, 0, 0, 0));
        holds(14, "4 the DIRECTORY of its ENTRY (of a FILE or the ROOT 0)", x -> eachNode(x, stage, 4, 0, 0, 1, 0, 1));
        holds(14, "5 OWNER", x -> eachNode(x, stage, 5, 0, 7, 0, 0, 0));
        holds(14, "6 RIGHTS", x -> eachNode(x, stage, 6, 61, 1, 61, 61, 61));
        holds(14, "7 how many ATTRIBUTES", x -> eachNode(x, stage, 7, 0, 1, 0, 0, 0));
        refused(14, "-1 no such TREE or NODE", -1, Sentences::house, x -> x.about(0, 1, 0), x -> x.about(2, 1, 0),
            x -> x.about(-2, 1, 0), x -> x.about(1, 0, 0), x -> x.about(1, 6, 0), x -> x.about(1, 36, 0),
            x -> x.about(1, 37, 0), x -> x.about(1, -1, 0), x -> x.about(1, GREATEST, 0), x -> x.about(LEAST, 1, 0));
        refused(14, "-2 no such what", -2, Sentences::house, x -> x.about(1, 1, 8), x -> x.about(1, 1, -1),
            x -> x.about(-1, 2, 8), x -> x.about(1, 5, LEAST), x -> x.about(1, 4, GREATEST));
        first(14, -1, Sentences::house, x -> x.about(0, 1, 8), x -> x.about(1, 6, -1));
    }

    private static void eachNode(PoolHouse x, Run stage, int what, int... due) {
        stage.on(x);
        for (int n = 1; n <= due.length; n++) {
            due("about(1, " + n + ", " + what + ")", x.about(1, n, what), due[n - 1]);
        }
    }

    private static void entry() {
        holds(15, "NAME k, from 0, of a DIRECTORY's, the least first", x -> {
            house(x);
            x.make(1, 1, 1, 1);
            x.make(1, 1, 1000000, 1);
            x.make(1, 1, 15, 1);
            int[] due = {1, 10, 15, 20, 40, 1000000};
            for (int k = 0; k < due.length; k++) {
                due("entry " + k, x.entry(1, 1, k), due[k]);
            }
            x.unlink(1, 1, 10);
            due("one less", x.entry(1, 1, 1), 15);
        });
        holds(TERMS, "A DIRECTORY has ENTRIES, 24 at most", x -> {
            manyEntries(x);
            due("the last", x.entry(1, 1, 23), 121);
            due("behind it", x.entry(1, 1, 24), -2);
        });
        refused(15, "-1 no such TREE or NODE", -1, Sentences::house, x -> x.entry(0, 1, 0), x -> x.entry(2, 1, 0),
            x -> x.entry(-2, 1, 0), x -> x.entry(1, 0, 0), x -> x.entry(1, 6, 0), x -> x.entry(1, 37, 0));
        refused(15, "-3 no DIRECTORY", -3, Sentences::house, x -> x.entry(1, 2, 0), x -> x.entry(1, 5, 0),
            x -> x.entry(-1, 4, -1));
        refused(15, "-3 no DIRECTORY, -5", -5, x -> {
            house(x);
            x.rights(1, 1, 59);
            x.as(1);
        }, x -> x.entry(1, 1, 0), x -> x.entry(1, 1, 9), x -> x.entry(1, 1, -1));
        refused(15, "-2 there is no such one", -2, Sentences::house, x -> x.entry(1, 1, 3), x -> x.entry(1, 1, -1),
            x -> x.entry(1, 3, 1), x -> x.entry(-1, 1, 3), x -> x.entry(1, 1, LEAST), x -> x.entry(1, 1, GREATEST));
        refused(15, "-2 there is no such one", -2, Sentences::bare, x -> x.entry(1, 1, 0));
        holds(TERMS, "entry() READ of it", x -> {
            house(x);
            x.rights(1, 1, 4);
            x.as(1);
            due("others may", x.entry(1, 1, 0), 10);
        });
    }

    private static void own() {
        holds(16, "A NODE's OWNER: who it was", x -> {
            house(x);
            due("0 to 7", x.own(1, 2, 7), 0);
            due("7 to 0", x.own(1, 2, 0), 7);
            due("the ROOT's", x.own(1, 1, 3), 0);
            due("now", x.about(1, 1, 5), 3);
            due("the same", x.own(1, 1, 3), 3);
        });
        refused(16, "-1 no such TREE or NODE", -1, Sentences::house, x -> x.own(0, 2, 1), x -> x.own(2, 2, 1),
            x -> x.own(-2, 2, 1), x -> x.own(1, 0, 1), x -> x.own(1, 6, 1), x -> x.own(1, 37, 1));
        refused(16, "-2 no such USER", -2, Sentences::house, x -> x.own(1, 2, 8), x -> x.own(1, 2, -1),
            x -> x.own(1, 2, LEAST), x -> x.own(1, 2, GREATEST));
        refused(16, "-3 a SNAPSHOT", -3, Sentences::house, x -> x.own(-1, 2, 1), x -> x.own(-1, 1, 0));
        refused(16, "-3 a SNAPSHOT, -5", -5, x -> {
            house(x);
            x.own(1, 2, 1);
            x.as(1);
        }, x -> x.own(1, 2, 1), x -> x.own(1, 2, 0), x -> x.own(1, 3, 1));
        Run limited = x -> {
            house(x);
            x.limit(1, 1, 1);
        };
        refused(16, "-4 the LIMIT of the new one (of a FILE)", -4, limited, x -> x.own(1, 2, 1));
        first(16, -1, Sentences::guest, x -> x.own(0, 2, 8), x -> x.own(1, 6, 8));
        first(16, -2, Sentences::guest, x -> x.own(-1, 2, 8), x -> x.own(1, 2, -1));
        first(16, -3, Sentences::guest, x -> x.own(-1, 2, 1));
        first(16, -5, x -> {
            limited.on(x);
            x.as(1);
        }, x -> x.own(1, 2, 1));
        holds(16, "-4 the LIMIT of the new one (of a FILE)", x -> {
            house(x);
            x.limit(1, 1, 2);
            x.limit(1, 2, 1);
            x.limit(1, 3, 0);
            due("just so many", x.own(1, 2, 1), 0);
            due("one too many", x.own(1, 2, 2), -4);
            due("with no BLOCKS", x.own(1, 4, 3), 0);
            due("no FILE", x.own(1, 3, 3), 0);
            due("back to 0", x.own(1, 2, 0), 1);
            x.own(1, 4, 0);
            x.write(1, 4, 0, 1, 1);
            x.own(1, 4, 1);
            due("together", x.own(1, 2, 1), -4);
        });
        refused(16, "-4 the LIMIT of the new one (of a FILE)", -4, x -> {
            house(x);
            x.cut(1, 2, 60);
            x.limit(1, 1, 0);
        }, x -> x.own(1, 2, 1));
        holds(TERMS, "what adds none is not refused for these", x -> {
            house(x);
            x.cut(1, 2, 0);
            x.limit(1, 0, 1);
            x.back(1, 1);
            due("the same OWNER", x.own(1, 2, 0), 0);
            due("of no BLOCKS", x.own(1, 4, 1), 0);
            due("of no BLOCKS", x.own(1, 4, 0), 1);
        });
    }

    private static void rights() {
        holds(17, "A NODE's RIGHTS: what they were", x -> {
            due("the least", x.rights(1, 1, 0), 61);
            due("the greatest", x.rights(1, 1, 63), 0);
            due("now", x.about(1, 1, 6), 63);
        });
        refused(17, "-1 no such TREE or NODE", -1, Sentences::house, x -> x.rights(0, 2, 1), x -> x.rights(2, 2, 1),
            x -> x.rights(-2, 2, 1), x -> x.rights(1, 0, 1), x -> x.rights(1, 6, 1), x -> x.rights(1, 37, 1));
        refused(17, "-2 they are not 0 .. 63", -2, Sentences::house, x -> x.rights(1, 2, 64),
            x -> x.rights(1, 2, -1), x -> x.rights(1, 2, LEAST), x -> x.rights(1, 2, GREATEST));
        refused(17, "-3 a SNAPSHOT", -3, Sentences::house, x -> x.rights(-1, 2, 1));
        refused(17, "-3 a SNAPSHOT, -5", -5, Sentences::guest, x -> x.rights(1, 2, 1), x -> x.rights(1, 1, 61));
        first(17, -1, Sentences::guest, x -> x.rights(0, 2, 64), x -> x.rights(1, 6, 64));
        first(17, -2, Sentences::guest, x -> x.rights(-1, 2, 64), x -> x.rights(1, 2, -1));
        first(17, -3, Sentences::guest, x -> x.rights(-1, 2, 1));
        holds(TERMS, "rights(), attribute() to be the OWNER", x -> {
            house(x);
            x.own(1, 2, 1);
            x.rights(1, 2, 0);
            x.as(1);
            due("though without RIGHTS", x.rights(1, 2, 9), 0);
            due("ATTRIBUTE", x.attribute(1, 2, 9, 9, true), 0);
            due("of another one", x.rights(1, 3, 9), -5);
            due("of another one", x.attribute(1, 3, 9, 9, true), -5);
        });
        holds(TERMS, "RIGHTS, a sum of 32, 16, 8 (its OWNER may READ, WRITE, ENTER) and 4, 2, 1 (others may)", x -> {
            house(x);
            x.own(1, 2, 1);
            x.own(1, 3, 1);
            mayOf(x, 1, 32, 16, 8);
            mayOf(x, 2, 4, 2, 1);
        });
        holds(TERMS, "make(), makeLink(), link(), unlink(), rename() WRITE and ENTER of each DIRECTORY that is told",
            x -> {
                house(x);
                for (int rights = 1; rights <= 2; rights++) {
                    changes(x, rights, -5, -5, -5, -5, -5);
                }
                changes(x, 3, 6, 7, 2, 2, 4);
            });
        holds(TERMS, "USER 0 may all", x -> {
            house(x);
            x.own(1, 2, 1);
            x.rights(1, 2, 0);
            x.rights(1, 1, 0);
            due("read", x.read(1, 2, 60), 2);
            due("write", x.write(1, 2, 60, 2, 1), 61);
            due("open", x.open(1, 2), 1);
            due("find", x.find(1, 1, 10), 2);
            due("entry", x.entry(1, 1, 0), 10);
            due("walk", walked(x, 1, true, 10), 2);
            due("make", x.make(1, 1, 50, 1), 6);
            due("unlink", x.unlink(1, 1, 50), 6);
        });
    }

    /** What a USER may of FILE 2 and DIRECTORY 3: only what this bit is for. */
    private static void mayOf(PoolHouse x, int user, int read, int write, int enter) {
        for (int bit = 1; bit <= 32; bit *= 2) {
            x.as(0);
            x.rights(1, 2, bit);
            x.rights(1, 3, bit);
            x.as(user);
            due("read with " + bit, x.read(1, 2, 60), bit == read ? 2 : -5);
            due("entry with " + bit, x.entry(1, 3, 0), bit == read ? 30 : -5);
            due("write with " + bit, x.write(1, 2, 60, 2, 1), bit == write ? 61 : -5);
            due("cut with " + bit, x.cut(1, 2, 61), bit == write ? 61 : -5);
            due("find with " + bit, x.find(1, 3, 30), bit == enter ? 4 : -5);
            due("open with " + bit, x.open(1, 2), bit == read || bit == write ? 1 : -5);
            x.close(1);
        }
    }

    private static void changes(PoolHouse x, int rights, int make, int makeLink, int link, int unlink, int rename) {
        x.as(0);
        x.rights(1, 3, rights);
        x.as(1);
        due("make", x.make(1, 3, 61, 1), make);
        due("makeLink", linkTo(x, 3, 62, true, 1), makeLink);
        due("link", x.link(1, 2, 3, 63), link);
        due("unlink", x.unlink(1, 3, 63), unlink);
        due("rename", x.rename(1, 3, 30, 3, 64), rename);
    }

    private static void attribute() {
        holds(18, "An ATTRIBUTE is there with v, or (on is false) is not: whether it was there (1, 0)", x -> {
            due("the least KEY", x.attribute(1, 1, 1, Long.MAX_VALUE, true), 0);
            due("the greatest", x.attribute(1, 1, 99, Long.MIN_VALUE, true), 0);
            due("again", x.attribute(1, 1, 1, -7, true), 1);
            due("its number", x.attributeOf(1, 1, 1), -7);
            due("how many", x.about(1, 1, 7), 2);
            due("off", x.attribute(1, 1, 1, 5, false), 1);
            due("off again", x.attribute(1, 1, 1, 5, false), 0);
            due("its number", x.attributeOf(1, 1, 1), 0);
            due("the other one's", x.attributeOf(1, 1, 99), Long.MIN_VALUE);
        });
        holds(18, "An ATTRIBUTE is there with v", x -> {
            x.attribute(1, 1, 50, 5, true);
            x.attribute(1, 1, 30, 3, true);
            x.attribute(1, 1, 10, 1, true);
            x.attribute(1, 1, 40, 4, true);
            x.attribute(1, 1, 30, 6, true);
            due("10", x.attributeOf(1, 1, 10), 1);
            due("30", x.attributeOf(1, 1, 30), 6);
            due("40", x.attributeOf(1, 1, 40), 4);
            due("50", x.attributeOf(1, 1, 50), 5);
            x.attribute(1, 1, 10, 1, false);
            due("30", x.attributeOf(1, 1, 30), 6);
            due("40", x.attributeOf(1, 1, 40), 4);
            due("50", x.attributeOf(1, 1, 50), 5);
        });
        refused(18, "-1 no such TREE or NODE", -1, Sentences::house, x -> x.attribute(0, 2, 1, 1, true),
            x -> x.attribute(2, 2, 1, 1, true), x -> x.attribute(-2, 2, 1, 1, true),
            x -> x.attribute(1, 0, 1, 1, true), x -> x.attribute(1, 6, 1, 1, false),
            x -> x.attribute(1, 37, 1, 1, true));
        refused(18, "-2 no such KEY", -2, Sentences::house, x -> x.attribute(1, 2, 0, 1, true),
            x -> x.attribute(1, 2, 100, 1, true), x -> x.attribute(1, 2, -1, 1, false),
            x -> x.attribute(1, 2, LEAST, 1, true), x -> x.attribute(1, 2, GREATEST, 1, false));
        refused(18, "-3 a SNAPSHOT", -3, Sentences::house, x -> x.attribute(-1, 2, 1, 1, true),
            x -> x.attribute(-1, 2, 1, 1, false));
        refused(18, "-3 a SNAPSHOT, -5", -5, Sentences::guest, x -> x.attribute(1, 2, 1, 1, true),
            x -> x.attribute(1, 2, 1, 1, false));
        Run four = x -> {
            house(x);
            for (int i = 1; i <= 4; i++) {
                x.attribute(1, 2, 10 * i, i, true);
            }
        };
        refused(18, "-4 there are 4 others", -4, four, x -> x.attribute(1, 2, 5, 1, true),
            x -> x.attribute(1, 2, 25, 1, true), x -> x.attribute(1, 2, 99, 1, true));
        first(18, -1, Sentences::guest, x -> x.attribute(0, 2, 0, 1, true), x -> x.attribute(1, 6, 0, 1, true));
        first(18, -2, Sentences::guest, x -> x.attribute(-1, 2, 0, 1, true), x -> x.attribute(1, 2, 0, 1, true));
        first(18, -3, Sentences::guest, x -> x.attribute(-1, 2, 1, 1, true));
        first(18, -5, x -> {
            four.on(x);
            x.as(1);
        }, x -> x.attribute(1, 2, 5, 1, true));
        holds(TERMS, "A NODE has at most 4 ATTRIBUTES", x -> {
            four.on(x);
            due("4", x.about(1, 2, 7), 4);
            due("one of these", x.attribute(1, 2, 20, 9, true), 1);
            due("another one off", x.attribute(1, 2, 5, 9, false), 0);
            due("one of these off", x.attribute(1, 2, 10, 9, false), 1);
            due("now another one", x.attribute(1, 2, 5, 9, true), 0);
            due("4", x.about(1, 2, 7), 4);
            due("another NODE", x.attribute(1, 3, 5, 9, true), 0);
        });
    }

    private static void attributeOf() {
        holds(19, "The number of an ATTRIBUTE", x -> {
            house(x);
            x.attribute(1, 2, 1, Long.MAX_VALUE, true);
            x.attribute(1, 2, 99, 0, true);
            due("1", x.attributeOf(1, 2, 1), Long.MAX_VALUE);
            due("99", x.attributeOf(1, 2, 99), 0);
            due("not the SNAPSHOT's", x.attributeOf(-1, 2, 1), 0);
        });
        holds(19, "0 when there is none, also no such TREE or NODE", x -> {
            house(x);
            x.attribute(1, 2, 1, 5, true);
            due("no KEY", x.attributeOf(1, 2, 2), 0);
            due("KEY 0", x.attributeOf(1, 2, 0), 0);
            due("KEY 100", x.attributeOf(1, 2, 100), 0);
            due("the least", x.attributeOf(1, 2, LEAST), 0);
            due("no TREE", x.attributeOf(0, 2, 1), 0);
            due("no TREE", x.attributeOf(2, 2, 1), 0);
            due("no TREE", x.attributeOf(-2, 2, 1), 0);
            due("no NODE", x.attributeOf(1, 0, 1), 0);
            due("no NODE", x.attributeOf(1, 6, 1), 0);
            due("no NODE", x.attributeOf(1, 37, 1), 0);
        });
    }

    private static void key() {
        Run three = x -> {
            house(x);
            x.attribute(1, 2, 50, 1, true);
            x.attribute(1, 2, 99, 1, true);
            x.attribute(1, 2, 1, 1, true);
        };
        holds(20, "KEY k, from 0, of a NODE's ATTRIBUTES, the least first", x -> {
            three.on(x);
            due("0", x.key(1, 2, 0), 1);
            due("1", x.key(1, 2, 1), 50);
            due("2", x.key(1, 2, 2), 99);
            x.attribute(1, 2, 60, 1, true);
            due("2", x.key(1, 2, 2), 60);
            due("3", x.key(1, 2, 3), 99);
            x.attribute(1, 2, 1, 1, false);
            due("0", x.key(1, 2, 0), 50);
        });
        refused(20, "-1 no such TREE or NODE", -1, three, x -> x.key(0, 2, 0), x -> x.key(2, 2, 0),
            x -> x.key(-2, 2, 0), x -> x.key(1, 0, 0), x -> x.key(1, 6, 0), x -> x.key(1, 37, -1));
        refused(20, "-2 there is no such one", -2, three, x -> x.key(1, 2, 3), x -> x.key(1, 2, -1),
            x -> x.key(1, 3, 0), x -> x.key(-1, 2, 0), x -> x.key(1, 2, LEAST), x -> x.key(1, 2, GREATEST));
        refused(20, "-2 there is no such one", -2, x -> {
            three.on(x);
            x.attribute(1, 2, 60, 1, true);
        }, x -> x.key(1, 2, 4));
    }
}
