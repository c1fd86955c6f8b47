/** The sentences of promises 40 to 47 and 53: what is put down, crashes, and the disks. */
final class KeptSentences extends Sentences {
    private KeptSentences() {
    }

    static void all() {
        commit();
        acts();
        hundred();
        putDown();
        putDownRefused();
        crash();
        crashed();
        crashedTrees();
        spoil();
        lose();
        bring();
        scrub();
        disk();
        oddities();
    }

    private static void acts(PoolHouse x, int count) {
        for (int i = 0; i < count; i++) {
            due("an ACT", x.rights(1, 1, 61), 61);
        }
    }

    private static void commit() {
        holds(40, "What was done is put down: how many ACTS there were since the last time", x -> {
            due("none", x.commit(), 0);
            x.make(1, 1, 5, 1);
            acts(x, 2);
            due("three", x.commit(), 3);
            due("none since", x.commit(), 0);
            acts(x, 1);
            due("lost", x.crash(0), 1);
            due("it is there", x.find(1, 1, 5), 2);
            due("none behind a crash", x.commit(), 0);
        });
        holds(41, "Likewise, by way of the log where that has room", x -> {
            due("none", x.sync(), 0);
            x.make(1, 1, 5, 1);
            acts(x, 2);
            due("three", x.sync(), 3);
            due("none since", x.sync(), 0);
            acts(x, 1);
            due("lost", x.crash(0), 1);
            due("it is there", x.find(1, 1, 5), 2);
        });
        holds(41, "where that has room", x -> {
            for (int i = 0; i < 60; i++) {
                x.attribute(1, 1, 1 + i % 4, i, true);
                due("sync", x.sync(), 1);
            }
            due("none lost", x.crash(2), 0);
            due("the last", x.attributeOf(1, 1, 4), 59);
        });
        holds(40, "how many ACTS there were since the last time", x -> {
            acts(x, 99);
            due("99", x.commit(), 99);
            acts(x, 100);
            due("put down by itself", x.commit(), 0);
            acts(x, 101);
            due("one since", x.sync(), 1);
        });
    }

    private static void act(String name, Call call, int answer) {
        holds(TERMS, "ACTS are make(), makeLink(), write(), cut(), link(), unlink(), rename(), own(), rights(), "
            + "attribute(), close(), if not refused", x -> {
                house(x);
                x.open(1, 4);
                x.step(10);
                due(name, call.of(x), answer);
                due("one ACT: " + name, x.commit(), 1);
            });
    }

    private static void noAct(String name, Call call, int answer) {
        holds(TERMS, "ACTS are make(), makeLink(), write(), cut(), link(), unlink(), rename(), own(), rights(), "
            + "attribute(), close(), if not refused", x -> {
                house(x);
                x.open(1, 4);
                x.step(10);
                due(name, call.of(x), answer);
                due("no ACT: " + name, x.commit(), 0);
            });
    }

    private static void acts() {
        act("make", x -> x.make(1, 1, 50, 1), 6);
        act("makeLink", x -> x.makeLink(1, 1, 50, true), 6);
        act("write", x -> x.write(1, 2, 0, 0, 1), 61);
        act("cut", x -> x.cut(1, 2, 61), 61);
        act("link", x -> x.link(1, 2, 3, 50), 2);
        act("unlink", x -> x.unlink(1, 1, 40), 5);
        act("rename", x -> x.rename(1, 1, 10, 1, 50), 2);
        act("rename to the same", x -> x.rename(1, 1, 10, 1, 10), 2);
        act("own", x -> x.own(1, 2, 0), 0);
        act("rights", x -> x.rights(1, 2, 61), 61);
        act("attribute", x -> x.attribute(1, 2, 5, 0, true), 0);
        act("attribute off that is not there", x -> x.attribute(1, 2, 5, 0, false), 0);
        act("close", x -> x.close(1), 4);
        noAct("make refused", x -> x.make(1, 1, 10, 1), -3);
        noAct("makeLink refused", x -> x.makeLink(1, 1, 10, true), -3);
        noAct("write refused", x -> x.write(1, 2, 0, 0, 0), -2);
        noAct("cut refused", x -> x.cut(1, 2, -1), -2);
        noAct("link refused", x -> x.link(1, 2, 1, 10), -3);
        noAct("unlink refused", x -> x.unlink(1, 1, 20), -3);
        noAct("rename refused", x -> x.rename(1, 1, 20, 3, 20), -3);
        noAct("own refused", x -> x.own(1, 2, 8), -2);
        noAct("rights refused", x -> x.rights(1, 2, 64), -2);
        noAct("attribute refused", x -> x.attribute(1, 2, 0, 0, true), -2);
        noAct("close refused", x -> x.close(2), -1);
        noAct("step", x -> x.step(5), 2);
        noAct("walk", x -> x.walk(1, 1, true), 2);
        noAct("open", x -> x.open(1, 2), 2);
        noAct("lock", x -> x.lock(1, 0, 5, 2), 0);
        noAct("as", x -> x.as(3), 0);
        noAct("send", x -> x.send(1, 1), 1);
        noAct("spoil", x -> x.spoil(1, 1, 1), 1);
        noAct("lose", x -> x.lose(1), 1);
    }

    private static void hundred() {
        holds(TERMS, "by itself, behind the 100th ACT since the last time", x -> {
            acts(x, 98);
            x.make(1, 1, 5, 1);
            due("99 are lost", x.crash(0), 99);
            due("it is not there", x.find(1, 1, 5), -1);
            acts(x, 99);
            x.make(1, 1, 5, 1);
            due("100 are not", x.crash(0), 0);
            due("it is there", x.find(1, 1, 5), 2);
        });
        holds(TERMS, "behind the 100th ACT since the last time", x -> {
            acts(x, 60);
            x.commit();
            acts(x, 60);
            due("60 since the last time", x.crash(0), 60);
            acts(x, 60);
            x.quota(1, 300);
            acts(x, 60);
            due("60 since the last time", x.crash(0), 60);
            acts(x, 100);
            x.make(1, 1, 5, 1);
            due("the 101st is lost", x.crash(0), 1);
            due("it is not there", x.find(1, 1, 5), -1);
        });
        holds(TERMS, "behind the 100th ACT since the last time", x -> {
            x.make(1, 1, 5, 1);
            x.make(1, 1, 6, 1);
            x.open(1, 2);
            x.unlink(1, 1, 5);
            acts(x, 96);
            due("the 100th", x.close(1), 2);
            due("none are lost", x.crash(0), 0);
            due("it is GONE", x.about(1, 2, 0), -1);
            due("the other one is not", x.about(1, 3, 0), 1);
        });
        holds(TERMS, "behind the 100th ACT since the last time", x -> {
            acts(x, 99);
            x.step(77);
            due("the 100th", x.makeLink(1, 1, 5, true), 2);
            due("none are lost", x.crash(0), 0);
            due("its PATH", x.linked(1, 2, 0), 77);
            due("its LENGTH", x.about(1, 2, 1), 1);
            acts(x, 99);
            due("refused", x.make(1, 1, 5, 1), -3);
            due("99 are lost", x.crash(0), 99);
        });
    }

    private static final String BEHIND = "behind snapshot(), clone(), back(), destroy(), hold(), quota(), limit(), "
        + "receive(), if not refused";
    private static final String BY = "this happens by commit(), sync() and scrub(), if not refused";

    private static void puts(String words, String name, Call call, int answer) {
        holds(TERMS, words, x -> {
            house(x);
            x.clone(1);
            x.snapshot(1);
            x.send(2, 2);
            x.rights(1, 1, 62);
            x.rights(2, 1, 62);
            x.make(2, 3, 50, 1);
            due(name, call.of(x), answer);
            due("ACTS lost behind " + name, x.crash(0), 0);
            due("RIGHTS of 2", x.about(2, 1, 6), x.told(2, 3) < 0 ? -1 : 62);
            due("RIGHTS of 1", x.about(1, 1, 6), name.equals("back") ? 61 : 62);
        });
    }

    private static void putDown() {
        puts(BY, "commit", x -> x.commit(), 3);
        puts(BY, "sync", x -> x.sync(), 3);
        puts(BY, "scrub", x -> x.scrub(false), 0);
        puts(BY, "scrub, a part", x -> x.scrub(true), 0);
        puts(BEHIND, "snapshot", x -> x.snapshot(2), 3);
        puts(BEHIND, "clone", x -> x.clone(1), 3);
        puts(BEHIND, "back", x -> x.back(1, 2), 1);
        puts(BEHIND, "destroy", x -> x.destroy(2), 0);
        puts(BEHIND, "destroy a SNAPSHOT", x -> x.destroy(-2), 0);
        puts(BEHIND, "hold", x -> x.hold(1, true), 0);
        puts(BEHIND, "quota", x -> x.quota(2, 300), 400);
        puts(BEHIND, "limit", x -> x.limit(2, 3, 300), 400);
        holds(TERMS, BEHIND, x -> {
            house(x);
            x.clone(1);
            x.send(1, 1);
            x.make(1, 1, 50, 1);
            due("receive", x.receive(2), 0);
            due("ACTS lost behind receive", x.crash(0), 0);
            due("it is there", x.find(1, 1, 50), 6);
        });
        holds(TERMS, "KEPT is how DATASETS, SNAPSHOTS, TREES, QUOTAS, LIMITS, HOLDS are", x -> {
            house(x);
            x.quota(1, 300);
            x.limit(1, 3, 200);
            x.hold(1, true);
            x.clone(1);
            x.snapshot(2);
            x.crash(0);
            due("QUOTA", x.told(1, 2), 300);
            due("LIMIT", x.limit(1, 3, 400), 200);
            due("HOLD", x.told(-1, 2), 1);
            due("DATASET", x.told(2, 0), 1);
            due("SNAPSHOT", x.told(-2, 0), 2);
            due("TREE", x.about(1, 2, 1), 61);
        });
    }

    private static void leaves(String words, String name, Call call, int answer) {
        holds(TERMS, words, x -> {
            house(x);
            x.clone(1);
            x.rights(1, 1, 62);
            due(name, call.of(x), answer);
            due("ACTS lost behind " + name, x.crash(0), 1);
            due("RIGHTS", x.about(1, 1, 6), 61);
        });
    }

    private static void putDownRefused() {
        leaves(BEHIND, "snapshot", x -> x.snapshot(3), -1);
        leaves(BEHIND, "clone", x -> x.clone(2), -1);
        leaves(BEHIND, "back", x -> x.back(2, 1), -3);
        leaves(BEHIND, "destroy", x -> x.destroy(1), -3);
        leaves(BEHIND, "hold", x -> x.hold(2, true), -1);
        leaves(BEHIND, "quota", x -> x.quota(1, 1), -3);
        leaves(BEHIND, "limit", x -> x.limit(1, 0, 1), -3);
        leaves(BEHIND, "receive", x -> x.receive(1), -3);
        leaves(BEHIND, "send", x -> x.send(1, 1), 1);
        leaves(BY, "crash", x -> x.crash(5), -2);
        holds(TERMS, BY, x -> {
            house(x);
            x.rights(1, 1, 62);
            x.lose(2);
            due("scrub", x.scrub(false), -3);
            due("scrub", x.scrub(true), -3);
            due("ACTS lost", x.crash(0), 1);
            due("RIGHTS", x.about(1, 1, 6), 61);
        });
    }

    private static void lost(String words, int how, int answer) {
        holds(42, words, x -> {
            house(x);
            x.make(1, 1, 50, 1);
            x.write(1, 2, 0, 7, 1);
            due("lost", x.crash(how), answer);
            due("the ENTRY", x.find(1, 1, 50), answer == 0 ? 6 : -1);
            due("the byte", x.read(1, 2, 0), answer == 0 ? 7 : 0);
            due("BLOCKS", x.held(0, false), answer == 0 ? 3 : 2);
            due("again", x.crash(how), 0);
        });
    }

    private static void crash() {
        lost("How = 0 at rest", 0, 2);
        lost("in the middle of its rows", 1, 2);
        lost("behind these", 2, 2);
        lost("behind the first label of several: it is not there", 3, 2);
        lost("4 when that has just been put down", 4, 0);
        holds(42, "A CRASH: how many ACTS were lost", x -> {
            due("none", x.crash(0), 0);
            acts(x, 5);
            due("five", x.crash(0), 5);
            due("none since", x.crash(0), 0);
        });
        refused(42, "-2 another number", -2, x -> {
            guest(x);
            x.step(5);
            x.open(1, 2);
        }, x -> x.crash(5), x -> x.crash(-1), x -> x.crash(LEAST), x -> x.crash(GREATEST));
    }

    private static void crashed() {
        holds(TERMS, "all is as it was KEPT, HANDLES are closed, the CALLER is 0, the PATH under way is empty", x -> {
            house(x);
            x.step(5);
            for (int i = 1; i <= 8; i++) {
                x.open(1, 2);
            }
            x.as(7);
            x.crash(0);
            due("the CALLER", x.as(0), 0);
            due("the PATH", x.step(5), 1);
            for (int i = 1; i <= 8; i++) {
                due("HANDLE", x.handle(i, 0), -1);
            }
            due("the least", x.open(1, 2), 1);
            due("without LOCKS", x.locked(1, 0), 0);
        });
        holds(TERMS, "(TAPE, OUT and what line() tells stay)", x -> {
            script(x, "as 0\nas x", -11, 1, "0\n");
            x.feed(0x61732030, 0, 0, 0, 0);
            x.crash(0);
            due("OUT", x.out(0), '0');
            due("OUT", x.out(2), -2);
            due("line", x.line(), 1);
            due("TAPE", x.end(4), 20);
            due("it is run", x.run(), 1);
        });
        holds(TERMS, "Numbers that were given come not again by a crash", x -> {
            house(x);
            x.clone(1);
            x.destroy(2);
            x.snapshot(1);
            x.destroy(-2);
            x.crash(0);
            due("SNAPSHOT", x.snapshot(1), 3);
            due("DATASET", x.clone(1), 3);
        });
        holds(TERMS, "DISKS are 1 .. 4 to 7", x -> {
            x.lose(1);
            x.crash(0);
            due("a crash leaves them", x.disk(1), 2);
        });
    }

    private static void crashedTrees() {
        holds(TERMS, "each DATASET's TREE is TAKEN UP, and that is put down", x -> {
            house(x);
            x.clone(1);
            x.open(1, 2);
            x.open(2, 2);
            x.unlink(1, 1, 10);
            x.unlink(2, 1, 10);
            x.write(1, 2, 0, 7, 1);
            x.snapshot(1);
            due("put down while open", x.crash(0), 0);
            due("GONE in 1", x.about(1, 2, 0), -1);
            due("GONE in 2", x.about(2, 2, 0), -1);
            due("there in the SNAPSHOT", x.about(-2, 2, 0), 1);
            due("BLOCKS", x.held(1, false), 0);
            due("its number is free", x.make(1, 1, 50, 2), 2);
            due("one ACT since", x.crash(0), 1);
            due("GONE again", x.about(1, 2, 0), -1);
        });
        holds(TERMS, "A CRASH: all is as it was KEPT", x -> {
            house(x);
            x.clone(1);
            x.unlink(1, 1, 10);
            x.make(1, 1, 10, 2);
            x.unlink(2, 1, 40);
            x.rename(2, 3, 30, 1, 30);
            x.cut(2, 2, 30);
            x.own(2, 4, 3);
            x.attribute(2, 4, 3, 3, true);
            due("ACTS", x.crash(0), 7);
            due("1", x.differs(1, -1, 0), -2);
            due("2", x.differs(2, -1, 0), -2);
            due("the DIRECTORY of its ENTRY", x.about(2, 5, 4), 1);
            due("BLOCKS", x.held(0, false), 2);
            due("oddities", x.oddities(), 0);
        });
        holds(TERMS, "A CRASH: all is as it was KEPT", x -> {
            full(x);
            x.write(2, 2, 59, 9, 2);
            x.cut(3, 2, 0);
            x.write(2, 4, 1739, 9, 2);
            due("ACTS", x.crash(0), 3);
            due("BLOCKS", x.held(0, false), 400);
            due("a byte", x.read(2, 2, 60), 2);
            due("LENGTH", x.about(2, 4, 1), 1621);
            due("BLOCKS", x.about(3, 2, 3), 36);
            due("oddities", x.oddities(), 0);
        });
    }

    private static void lostOne(PoolHouse x) {
        house(x);
        x.lose(2);
    }

    private static void spoiltOne(PoolHouse x) {
        house(x);
        x.spoil(2, 7, 7);
    }

    private static void spoil() {
        holds(43, "N bytes of a disk, at places drawn by a seed from all that it has (labels, log, rows), become "
            + "others: 1", x -> {
                house(x);
                due("the least n", x.spoil(4, 0, 1), 1);
                due("SUSPECT", x.disk(4), 1);
                due("the greatest n", x.spoil(4, LEAST, 2000), 1);
                due("again", x.spoil(4, GREATEST, 2000), 1);
                due("what is asked is answered", x.read(1, 2, 60), 2);
                due("crash", x.crash(0), 0);
                due("what is asked is answered", x.read(1, 2, 60), 2);
                due("oddities", x.oddities(), 0);
            });
        refused(43, "-1 no such disk", -1, Sentences::house, x -> x.spoil(0, 1, 1), x -> x.spoil(5, 1, 1),
            x -> x.spoil(-1, 1, 1), x -> x.spoil(LEAST, 1, 1), x -> x.spoil(GREATEST, 1, 1));
        refused(43, "-2 n is not 1 .. 2000", -2, Sentences::house, x -> x.spoil(1, 1, 0), x -> x.spoil(1, 1, 2001),
            x -> x.spoil(1, 1, -1), x -> x.spoil(1, 1, LEAST), x -> x.spoil(1, 1, GREATEST));
        refused(43, "-3 another one is SUSPECT", -3, KeptSentences::spoiltOne, x -> x.spoil(1, 1, 1),
            x -> x.spoil(4, 1, 1));
        refused(43, "or it is lost", -3, KeptSentences::lostOne, x -> x.spoil(2, 1, 1), x -> x.spoil(1, 1, 1));
        first(43, -1, KeptSentences::lostOne, x -> x.spoil(5, 1, 0));
        first(43, -2, KeptSentences::lostOne, x -> x.spoil(2, 1, 0), x -> x.spoil(1, 1, 2001));
        holds(43, "It is SUSPECT then", x -> {
            due("before", x.disk(3), 0);
            x.spoil(3, 1, 1);
            due("then", x.disk(3), 1);
            due("the others are not", x.disk(2), 0);
            x.lose(3);
            x.bring(3, false);
            due("it still is", x.spoil(3, 1, 1), 1);
        });
    }

    private static void lose() {
        holds(44, "A disk is lost: it is SUSPECT; 1", x -> {
            house(x);
            due("lose", x.lose(4), 1);
            due("lost", x.disk(4), 2);
            due("the others are not", x.disk(1), 0);
            due("what is asked is answered", x.read(1, 2, 60), 2);
            due("and done", x.write(1, 2, 0, 9, 1), 61);
            due("and put down", x.commit(), 1);
            due("crash", x.crash(0), 0);
            due("as it was KEPT", x.read(1, 2, 0), 9);
        });
        refused(44, "-1 no such disk", -1, Sentences::house, x -> x.lose(0), x -> x.lose(5), x -> x.lose(-1),
            x -> x.lose(LEAST), x -> x.lose(GREATEST));
        refused(44, "-3 another one is SUSPECT", -3, KeptSentences::spoiltOne, x -> x.lose(1), x -> x.lose(4));
        refused(44, "or it is lost", -3, KeptSentences::lostOne, x -> x.lose(2), x -> x.lose(1));
        first(44, -1, KeptSentences::lostOne, x -> x.lose(5));
        holds(44, "-3 another one is SUSPECT, or it is lost", x -> {
            x.spoil(2, 1, 1);
            due("the same one", x.lose(2), 1);
            x.bring(2, true);
            due("again", x.lose(2), 1);
        });
    }

    private static void bring() {
        holds(45, "A lost disk comes back, as it was when it was lost, or (empty) another one in its place, all of it "
            + "0: 1", x -> {
                house(x);
                x.lose(2);
                x.write(1, 2, 0, 9, 1);
                x.commit();
                due("as it was", x.bring(2, false), 1);
                due("SUSPECT", x.disk(2), 1);
                due("what is asked is answered", x.read(1, 2, 0), 9);
                x.lose(2);
                due("empty", x.bring(2, true), 1);
                due("SUSPECT", x.disk(2), 1);
                due("crash", x.crash(0), 0);
                due("what is asked is answered", x.read(1, 2, 0), 9);
                due("oddities", x.oddities(), 0);
            });
        refused(45, "-1 no such disk", -1, KeptSentences::lostOne, x -> x.bring(0, true), x -> x.bring(5, true),
            x -> x.bring(-1, false), x -> x.bring(LEAST, true), x -> x.bring(GREATEST, true));
        refused(45, "-3 it is not lost", -3, KeptSentences::lostOne, x -> x.bring(1, true), x -> x.bring(4, false));
        refused(45, "-3 it is not lost", -3, KeptSentences::spoiltOne, x -> x.bring(2, true), x -> x.bring(1, true));
        refused(45, "-3 it is not lost", -3, Sentences::house, x -> x.bring(1, true), x -> x.bring(1, false));
        holds(45, "-3 it is not lost", x -> {
            x.lose(1);
            due("bring", x.bring(1, true), 1);
            due("again", x.bring(1, true), -3);
        });
    }

    private static void scrub() {
        holds(46, "All that is held is gone over, and mended where it is wrong: which disk was SUSPECT (0 for none); "
            + "none is then", x -> {
                house(x);
                due("none", x.scrub(false), 0);
                x.spoil(4, 1, 2000);
                due("which", x.scrub(false), 4);
                due("none is then", x.disk(4), 0);
                due("none", x.scrub(false), 0);
                due("another one", x.spoil(1, 1, 1), 1);
                due("which", x.scrub(false), 1);
                x.lose(2);
                x.bring(2, true);
                due("which", x.scrub(false), 2);
                due("none is then", x.disk(2), 0);
                due("what is asked is answered", x.read(1, 2, 60), 2);
            });
        holds(46, "With cut: only a part, then nothing is MENDED: 0 (put down is all the same)", x -> {
            house(x);
            due("none", x.scrub(true), 0);
            x.spoil(3, 1, 2000);
            x.write(1, 2, 0, 9, 1);
            due("a part", x.scrub(true), 0);
            due("still SUSPECT", x.disk(3), 1);
            due("put down", x.crash(0), 0);
            due("as it was KEPT", x.read(1, 2, 0), 9);
            due("another one", x.lose(1), -3);
        });
        refused(46, "-3 a disk is lost", -3, KeptSentences::lostOne, x -> x.scrub(false), x -> x.scrub(true));
        holds(TERMS, "What is done to another disk is refused so long", x -> {
            x.spoil(1, 1, 1);
            due("spoil", x.spoil(2, 1, 1), -3);
            due("lose", x.lose(2), -3);
            due("bring", x.bring(2, true), -3);
            x.scrub(true);
            due("not MENDED", x.spoil(2, 1, 1), -3);
            x.crash(0);
            due("nor by a crash", x.spoil(2, 1, 1), -3);
            x.scrub(false);
            due("MENDED", x.spoil(2, 1, 1), 1);
        });
    }

    private static void disk() {
        holds(47, "0 a disk is there and not SUSPECT, 1 SUSPECT, 2 lost", x -> {
            due("the first", x.disk(1), 0);
            due("the last", x.disk(4), 0);
            x.spoil(4, 1, 1);
            due("SUSPECT", x.disk(4), 1);
            x.lose(4);
            due("lost", x.disk(4), 2);
            due("the first", x.disk(1), 0);
            x.bring(4, false);
            due("SUSPECT", x.disk(4), 1);
            x.scrub(false);
            due("there", x.disk(4), 0);
        });
        refused(47, "-1 no such disk", -1, KeptSentences::lostOne, x -> x.disk(0), x -> x.disk(5), x -> x.disk(-1),
            x -> x.disk(LEAST), x -> x.disk(GREATEST));
    }

    private static void oddities() {
        holds(53, "There are none at any time", x -> {
            due("new", x.oddities(), 0);
            full(x);
            due("full", x.oddities(), 0);
            x.open(1, 2);
            x.unlink(1, 1, 10);
            x.cut(2, 3, 30);
            due("changed", x.oddities(), 0);
            x.crash(1);
            due("crashed", x.oddities(), 0);
            x.back(1, 2);
            x.destroy(4);
            due("back, destroyed", x.oddities(), 0);
            x.spoil(3, 3, 2000);
            due("spoilt", x.oddities(), 0);
            x.lose(3);
            due("lost", x.oddities(), 0);
        });
    }
}
