/** The sentences of promises 21 to 39: USERS, HANDLES, DATASETS, SNAPSHOTS and the STREAM. */
final class PoolSentences extends Sentences {
    private PoolSentences() {
    }

    static void all() {
        as();
        usage();
        limit();
        lock();
        lockRefused();
        locked();
        open();
        openRefused();
        close();
        handle();
        snapshot();
        cloned();
        back();
        backRefused();
        destroy();
        destroyRefused();
        hold();
        quota();
        held();
        told();
        differs();
        differsRefused();
        send();
        receive();
        receivePieces();
        receiveRefused();
        receiveRoom();
    }

    private static void as() {
        holds(21, "Who calls from now on: who did", x -> {
            due("the greatest", x.as(7), 0);
            due("the same", x.as(7), 7);
            due("the least", x.as(0), 7);
        });
        refused(21, "-2 no such USER", -2, Sentences::guest, x -> x.as(8), x -> x.as(-1), x -> x.as(LEAST),
            x -> x.as(GREATEST));
        holds(TERMS, "USERS are 0 .. 7; the CALLER is the one for whom all is asked (0 at first)", x -> {
            due("0 at first", x.as(0), 0);
            x.as(7);
            due("asked for 7", x.make(1, 1, 5, 1), -5);
        });
    }

    private static void usage() {
        holds(22, "How many BLOCKS the FILES of a USER have in a TREE", x -> {
            house(x);
            due("two", x.usage(1, 0), 2);
            x.write(1, 4, 0, 1, 1);
            due("in two FILES", x.usage(1, 0), 3);
            x.own(1, 2, 7);
            due("the first USER's", x.usage(1, 0), 1);
            due("the last USER's", x.usage(1, 7), 2);
            due("none", x.usage(1, 3), 0);
            due("the SNAPSHOT's", x.usage(-1, 0), 2);
            x.open(1, 4);
            x.unlink(1, 3, 30);
            due("of a FILE without ENTRIES", x.usage(1, 0), 1);
            x.close(1);
            due("that is GONE", x.usage(1, 0), 0);
        });
        refused(22, "-1 no such TREE", -1, Sentences::house, x -> x.usage(0, 0), x -> x.usage(2, 0),
            x -> x.usage(-2, 0), x -> x.usage(LEAST, 0), x -> x.usage(GREATEST, 0));
        refused(22, "-2 no such USER", -2, Sentences::house, x -> x.usage(1, 8), x -> x.usage(1, -1),
            x -> x.usage(-1, 8), x -> x.usage(1, LEAST), x -> x.usage(1, GREATEST));
        first(22, -1, Sentences::house, x -> x.usage(2, 8));
    }

    private static void limit() {
        holds(23, "A USER's LIMIT in a DATASET: what it was", x -> {
            house(x);
            due("the least", x.limit(1, 7, 0), 400);
            due("the greatest", x.limit(1, 7, 400), 0);
            due("again", x.limit(1, 7, 5), 400);
            due("another USER's", x.limit(1, 6, 5), 400);
        });
        holds(TERMS, "A DATASET has a LIMIT for each USER (400 at first)", x -> {
            house(x);
            x.limit(1, 3, 7);
            x.clone(1);
            for (int user = 0; user <= 7; user++) {
                due("of a clone", x.limit(2, user, 100), 400);
            }
        });
        refused(23, "-1 no such DATASET", -1, Sentences::house, x -> x.limit(0, 1, 5), x -> x.limit(2, 1, 5),
            x -> x.limit(-1, 1, 5), x -> x.limit(LEAST, 1, 5), x -> x.limit(GREATEST, 1, 5));
        refused(23, "-2 no such USER", -2, Sentences::house, x -> x.limit(1, 8, 5), x -> x.limit(1, -1, 5),
            x -> x.limit(1, LEAST, 5), x -> x.limit(1, GREATEST, 5));
        refused(23, "or it is not 0 .. 400", -2, Sentences::house, x -> x.limit(1, 1, -1), x -> x.limit(1, 1, 401),
            x -> x.limit(1, 1, LEAST), x -> x.limit(1, 1, GREATEST));
        refused(23, "-3 the USER has more", -3, Sentences::house, x -> x.limit(1, 0, 1), x -> x.limit(1, 0, 0));
        refused(23, "-3 the USER has more, -5", -5, Sentences::guest, x -> x.limit(1, 0, 2), x -> x.limit(1, 1, 5));
        holds(23, "-3 the USER has more", x -> {
            house(x);
            due("just so many", x.limit(1, 0, 2), 400);
            due("none of another one", x.limit(1, 1, 0), 400);
        });
        first(23, -1, Sentences::guest, x -> x.limit(2, 8, 5), x -> x.limit(2, 1, 401));
        first(23, -2, Sentences::guest, x -> x.limit(1, 8, 0), x -> x.limit(1, 0, -1));
        first(23, -3, Sentences::guest, x -> x.limit(1, 0, 1));
    }

    /** The house with HANDLES 1, 2 and 3 for FILE 2 and 4 for FILE 4. */
    private static void handles(PoolHouse x) {
        house(x);
        x.open(1, 2);
        x.open(1, 2);
        x.open(1, 2);
        x.open(1, 4);
    }

    private static void lock() {
        holds(24, "Bytes from .. to of a HANDLE's FILE are its, alone (kind 2), shared (1), or not (0), whatever they "
            + "were: 0", x -> {
                handles(x);
                due("all of them alone", x.lock(1, 0, 2159, 2), 0);
                due("one shared", x.lock(1, 5, 5, 1), 0);
                due("one not", x.lock(1, 2159, 2159, 0), 0);
                due("alone again", x.lock(1, 5, 5, 2), 0);
                due("the first", x.locked(1, 0), 2);
                due("one of them", x.locked(1, 5), 2);
                due("the last", x.locked(1, 2159), 0);
                due("the last but one", x.locked(1, 2158), 2);
                due("not that are not", x.lock(2, 0, 2159, 0), 0);
            });
        holds(24, "or, changing nothing, the least other HANDLE that bars it", x -> {
            handles(x);
            x.lock(2, 10, 20, 1);
            x.lock(3, 20, 30, 1);
            due("by both", x.lock(1, 0, 2159, 2), 2);
            due("by one", x.lock(1, 21, 40, 2), 3);
            due("nothing changed", x.locked(1, 35), 0);
            due("by the first alone", x.lock(3, 0, 10, 2), 2);
            due("nothing changed", x.locked(3, 5), 0);
            due("not by itself", x.lock(3, 21, 30, 2), 0);
            due("by a greater number", x.lock(1, 30, 30, 1), 3);
        });
        holds(TERMS, "of two HANDLES for one FILE one has no byte alone that the other one has, shared or alone", x -> {
            handles(x);
            x.lock(1, 100, 200, 2);
            due("alone, at its first", x.lock(2, 0, 100, 2), 1);
            due("shared, at its last", x.lock(2, 200, 300, 1), 1);
            due("before it", x.lock(2, 0, 99, 2), 0);
            due("behind it", x.lock(2, 201, 2159, 1), 0);
            due("shared with shared", x.lock(3, 201, 2159, 1), 0);
            due("alone with shared", x.lock(3, 2159, 2159, 2), 2);
            due("not", x.lock(3, 0, 2159, 0), 0);
            due("of another FILE", x.lock(4, 0, 2159, 2), 0);
        });
        holds(24, "the least other HANDLE that bars it", x -> {
            handles(x);
            x.lock(1, 0, 0, 2);
            x.lock(1, 2159, 2159, 2);
            due("at the first byte", x.lock(2, 0, 0, 1), 1);
            due("at the last byte", x.lock(2, 2159, 2159, 1), 1);
            due("between", x.lock(2, 1, 2158, 2), 0);
        });
        holds(TERMS, "an open one is for a FILE of a DATASET", x -> {
            house(x);
            x.clone(1);
            due("of 1", x.open(1, 2), 1);
            due("of 2", x.open(2, 2), 2);
            due("alone", x.lock(1, 0, 9, 2), 0);
            due("of another DATASET", x.lock(2, 0, 9, 2), 0);
        });
        holds(TERMS, "LOCKS bar nothing but LOCKS; they go with the HANDLE", x -> {
            handles(x);
            x.lock(1, 0, 2159, 2);
            due("write", x.write(1, 2, 0, 1, 1), 61);
            due("cut", x.cut(1, 2, 0), 61);
            due("open", x.open(1, 2), 5);
            due("unlink", x.unlink(1, 1, 10), 2);
            due("close", x.close(1), 2);
            due("now it may", x.lock(2, 0, 2159, 2), 0);
            due("a new one", x.open(1, 2), 1);
            due("has none", x.locked(1, 0), 0);
            due("has none", x.locked(1, 2159), 0);
        });
    }

    private static void lockRefused() {
        refused(24, "-1 it is not open", -1, PoolSentences::handles, x -> x.lock(5, 0, 0, 1), x -> x.lock(0, 0, 0, 1),
            x -> x.lock(9, 0, 0, 1), x -> x.lock(-1, 0, 0, 1), x -> x.lock(8, 0, 0, 1), x -> x.lock(LEAST, 0, 0, 1),
            x -> x.lock(GREATEST, 0, 0, 1));
        refused(24, "-2 not 0 <= from <= to <= 2159", -2, PoolSentences::handles, x -> x.lock(1, -1, 5, 1),
            x -> x.lock(1, 5, 4, 1), x -> x.lock(1, 0, 2160, 1), x -> x.lock(1, 2160, 2160, 1),
            x -> x.lock(1, LEAST, 0, 1), x -> x.lock(1, 0, GREATEST, 1), x -> x.lock(1, 0, -1, 0),
            x -> x.lock(1, GREATEST, LEAST, 0));
        refused(24, "or no such kind", -2, PoolSentences::handles, x -> x.lock(1, 0, 0, 3), x -> x.lock(1, 0, 0, -1),
            x -> x.lock(1, 0, 0, LEAST), x -> x.lock(1, 0, 0, GREATEST));
        first(24, -1, PoolSentences::handles, x -> x.lock(5, 5, 4, 3));
    }

    private static void locked() {
        holds(25, "What a HANDLE has of a byte: 0 nothing, 1 shared, 2 alone", x -> {
            handles(x);
            x.lock(1, 1, 1, 1);
            x.lock(1, 2159, 2159, 2);
            due("nothing", x.locked(1, 0), 0);
            due("shared", x.locked(1, 1), 1);
            due("alone", x.locked(1, 2159), 2);
            due("another one", x.locked(2, 1), 0);
        });
        refused(25, "-1 it is not open", -1, PoolSentences::handles, x -> x.locked(5, 0), x -> x.locked(0, 0),
            x -> x.locked(9, 0), x -> x.locked(-1, 0), x -> x.locked(8, 0), x -> x.locked(LEAST, 0));
        refused(25, "-2 no such byte", -2, PoolSentences::handles, x -> x.locked(1, -1), x -> x.locked(1, 2160),
            x -> x.locked(1, LEAST), x -> x.locked(1, GREATEST));
        first(25, -1, PoolSentences::handles, x -> x.locked(5, -1));
    }

    private static void open() {
        holds(26, "The least HANDLE that is not open is open for a FILE of a DATASET: its number", x -> {
            house(x);
            for (int i = 1; i <= 8; i++) {
                due("open", x.open(1, 2), i);
            }
            x.close(7);
            x.close(3);
            due("the least", x.open(1, 4), 3);
            due("the next one", x.open(1, 4), 7);
            due("no more", x.open(1, 4), -4);
        });
        holds(TERMS, "A FILE without ENTRIES that no HANDLE is open for is GONE", x -> {
            handles(x);
            due("unlink", x.unlink(1, 1, 10), 2);
            due("it is there", x.about(1, 2, 2), 0);
            due("it is open once more", x.open(1, 2), 5);
            due("it is written to", x.write(1, 2, 100, 7, 1), 101);
            x.close(1);
            x.close(2);
            x.close(3);
            due("it is there", x.read(1, 2, 100), 7);
            due("the last HANDLE", x.close(5), 2);
            due("GONE", x.about(1, 2, 2), -1);
            due("its BLOCKS", x.held(1, false), 0);
            due("another one goes not", x.close(4), 4);
            due("it has an ENTRY", x.about(1, 4, 2), 1);
        });
        holds(TERMS, "at the end of the call by which it came so", x -> {
            house(x);
            x.open(1, 4);
            due("over it", x.rename(1, 1, 10, 3, 30), 2);
            due("it is open", x.about(1, 4, 2), 0);
            due("its number is taken", x.make(1, 1, 50, 1), 6);
            x.close(1);
            due("GONE", x.about(1, 4, 2), -1);
            due("its number is free", x.make(1, 1, 51, 1), 4);
        });
    }

    private static void openRefused() {
        refused(26, "-1 no such TREE or NODE", -1, Sentences::house, x -> x.open(0, 2), x -> x.open(2, 2),
            x -> x.open(-2, 2), x -> x.open(1, 0), x -> x.open(1, 6), x -> x.open(1, 37), x -> x.open(1, LEAST));
        refused(26, "-3 a SNAPSHOT, no FILE", -3, Sentences::house, x -> x.open(-1, 2), x -> x.open(1, 1),
            x -> x.open(1, 3), x -> x.open(1, 5));
        refused(TERMS, "open() READ or WRITE", -5, x -> {
            house(x);
            x.rights(1, 2, 57);
            x.as(1);
        }, x -> x.open(1, 2));
        Run eight = x -> {
            house(x);
            for (int i = 1; i <= 8; i++) {
                x.open(1, 2);
            }
        };
        refused(26, "-4 all are open", -4, eight, x -> x.open(1, 2), x -> x.open(1, 4));
        first(26, -1, eight, x -> x.open(0, 2), x -> x.open(-1, 6));
        first(26, -3, eight, x -> x.open(-1, 2), x -> x.open(1, 1));
        first(26, -5, x -> {
            eight.on(x);
            x.rights(1, 2, 0);
            x.as(1);
        }, x -> x.open(1, 2));
        first(26, -3, Sentences::guest, x -> x.open(-1, 2), x -> x.open(1, 1));
    }

    private static void close() {
        holds(27, "A HANDLE is open no more: the NODE that it was for", x -> {
            handles(x);
            due("the first", x.close(1), 2);
            due("the last", x.close(4), 4);
            due("not open", x.handle(1, 0), -1);
            due("again", x.close(1), -1);
            due("the others are", x.handle(2, 1), 2);
        });
        holds(27, "A HANDLE is open no more", x -> {
            handles(x);
            for (int i = 5; i <= 8; i++) {
                x.open(1, 4);
            }
            due("the eighth", x.close(8), 4);
            x.as(1);
            due("for a guest, too", x.close(7), 4);
        });
        refused(27, "-1 it is not open", -1, PoolSentences::handles, x -> x.close(5), x -> x.close(0),
            x -> x.close(9), x -> x.close(-1), x -> x.close(LEAST), x -> x.close(GREATEST));
    }

    private static void handle() {
        holds(28, "What = 0 the DATASET a HANDLE is for, 1 the NODE", x -> {
            handles(x);
            x.clone(1);
            x.open(2, 4);
            due("DATASET", x.handle(1, 0), 1);
            due("NODE", x.handle(1, 1), 2);
            due("DATASET", x.handle(5, 0), 2);
            due("NODE", x.handle(5, 1), 4);
        });
        refused(28, "-1 it is not open", -1, PoolSentences::handles, x -> x.handle(5, 0), x -> x.handle(0, 0),
            x -> x.handle(9, 0), x -> x.handle(-1, 1), x -> x.handle(LEAST, 0), x -> x.handle(GREATEST, 0));
        refused(28, "-2 no such what", -2, PoolSentences::handles, x -> x.handle(1, 2), x -> x.handle(1, -1),
            x -> x.handle(4, LEAST), x -> x.handle(4, GREATEST));
        first(28, -1, PoolSentences::handles, x -> x.handle(5, 2));
    }

    private static void snapshots(PoolHouse x) {
        house(x);
        for (int i = 2; i <= 8; i++) {
            x.snapshot(1);
        }
    }

    private static void snapshot() {
        holds(29, "A new SNAPSHOT with the TREE that a DATASET has: its number", x -> {
            house(x);
            x.write(1, 4, 0, 7, 1);
            due("second", x.snapshot(1), 2);
            x.unlink(1, 3, 30);
            due("it has what was", x.read(-2, 4, 0), 7);
            due("the first has not", x.read(-1, 4, 0), -2);
            due("its DATASET", x.told(-2, 0), 1);
        });
        holds(TERMS, "(A SNAPSHOT has all NODES that the TREE had, those without ENTRIES too.)", x -> {
            handles(x);
            x.unlink(1, 1, 10);
            due("with it", x.snapshot(1), 2);
            x.close(1);
            x.close(2);
            x.close(3);
            due("GONE here", x.about(1, 2, 0), -1);
            due("there", x.about(-2, 2, 2), 0);
            due("its byte", x.read(-2, 2, 60), 2);
            due("NODES", x.told(-2, 3), 5);
        });
        holds(TERMS, "at most 5 DATASETS and 8 SNAPSHOTS at a time", x -> {
            house(x);
            for (int i = 2; i <= 8; i++) {
                due("snapshot", x.snapshot(1), i);
            }
            for (int i = 2; i <= 5; i++) {
                due("clone", x.clone(8), i);
            }
            due("ninth", x.snapshot(1), -4);
            due("of another one", x.snapshot(5), -4);
            due("sixth", x.clone(1), -4);
        });
        holds(TERMS, "Both are numbered from 1 on as they are made, each kind by itself, and no number comes again", x -> {
            due("SNAPSHOT", x.snapshot(1), 1);
            due("DATASET", x.clone(1), 2);
            x.destroy(2);
            x.destroy(-1);
            due("refused", x.snapshot(2), -1);
            due("SNAPSHOT", x.snapshot(1), 2);
            due("DATASET", x.clone(2), 3);
            due("the first", x.told(-1, 0), -1);
            due("the second", x.told(2, 0), -1);
        });
        refused(29, "-1 no such DATASET (also below 1)", -1, Sentences::house, x -> x.snapshot(2), x -> x.snapshot(0),
            x -> x.snapshot(-1), x -> x.snapshot(LEAST), x -> x.snapshot(GREATEST));
        refused(29, "-4 there are 8", -4, PoolSentences::snapshots, x -> x.snapshot(1));
        refused(TERMS, "all from snapshot() to quota()", -5, Sentences::guest, x -> x.snapshot(1));
        first(29, -1, Sentences::guest, x -> x.snapshot(2));
        first(29, -5, x -> {
            snapshots(x);
            x.as(1);
        }, x -> x.snapshot(1));
    }

    private static void cloned() {
        holds(30, "A new DATASET, whose TREE is that of a SNAPSHOT, which is its ORIGIN: its number", x -> {
            house(x);
            x.unlink(1, 1, 10);
            due("second", x.clone(1), 2);
            due("its TREE", x.differs(2, -1, 0), -2);
            due("its ORIGIN", x.told(2, 0), 1);
            due("its QUOTA", x.told(2, 2), 400);
            due("its BLOCKS", x.held(2, true), 0);
            x.write(2, 2, 0, 9, 1);
            due("its own", x.read(2, 2, 0), 9);
            due("the SNAPSHOT's", x.read(-1, 2, 0), 0);
        });
        holds(TERMS, "A TREE is TAKEN UP (by clone, back, receive, and of each DATASET at a crash): HANDLES for it are "
            + "closed, and FILES without ENTRIES are GONE", x -> {
                handles(x);
                x.unlink(1, 1, 10);
                x.snapshot(1);
                due("clone", x.clone(2), 2);
                due("NODE", x.about(2, 2, 0), -1);
                due("BLOCKS", x.held(2, false), 0);
                due("here it stays", x.about(1, 2, 0), 1);
                due("and open", x.handle(1, 1), 2);
            });
        refused(30, "-1 no such SNAPSHOT (also below 1)", -1, Sentences::house, x -> x.clone(2), x -> x.clone(0),
            x -> x.clone(-1), x -> x.clone(LEAST), x -> x.clone(GREATEST));
        Run five = x -> {
            house(x);
            for (int i = 2; i <= 5; i++) {
                x.clone(1);
            }
        };
        refused(30, "-4 there are 5", -4, five, x -> x.clone(1));
        refused(TERMS, "all from snapshot() to quota()", -5, Sentences::guest, x -> x.clone(1));
        first(30, -1, Sentences::guest, x -> x.clone(2));
        first(30, -5, x -> {
            five.on(x);
            x.as(1);
        }, x -> x.clone(1));
        holds(30, "-4 there are 5", x -> {
            five.on(x);
            due("destroy", x.destroy(3), 0);
            due("one more", x.clone(1), 6);
            due("no more", x.clone(1), -4);
        });
    }

    private static void back() {
        holds(31, "A DATASET's TREE becomes that of a SNAPSHOT of this DATASET: 1", x -> {
            house(x);
            x.unlink(1, 1, 10);
            x.write(1, 4, 0, 7, 1);
            due("back", x.back(1, 1), 1);
            due("its TREE", x.differs(1, -1, 0), -2);
            due("its BLOCKS", x.held(0, false), 2);
            due("again", x.back(1, 1), 1);
        });
        holds(TERMS, "A TREE is TAKEN UP (by clone, back, receive, and of each DATASET at a crash)", x -> {
            handles(x);
            x.unlink(1, 1, 10);
            x.clone(1);
            due("of another one", x.open(2, 2), 5);
            x.snapshot(1);
            due("back", x.back(1, 2), 1);
            due("HANDLES are closed", x.handle(1, 0), -1);
            due("HANDLES are closed", x.handle(4, 0), -1);
            due("but another one's", x.handle(5, 0), 2);
            due("NODE", x.about(1, 2, 0), -1);
            due("the SNAPSHOT's", x.about(-2, 2, 0), 1);
        });
        holds(31, "or this one has one made later", x -> {
            house(x);
            x.clone(1);
            x.snapshot(2);
            due("another one's does not count", x.back(1, 1), 1);
            x.snapshot(1);
            due("a later one", x.back(1, 1), -3);
            due("the latest", x.back(1, 3), 1);
            x.destroy(-3);
            due("it is there no more", x.back(1, 1), 1);
        });
        holds(31, "or this one has one made later", x -> {
            house(x);
            x.snapshot(1);
            x.destroy(-1);
            x.snapshot(1);
            due("though it is in the place of an earlier one", x.back(1, 2), -3);
            due("the latest", x.back(1, 3), 1);
        });
        holds(31, "-4 QUOTA", x -> {
            house(x);
            x.cut(1, 2, 0);
            x.quota(1, 2);
            due("just so many", x.back(1, 1), 1);
        });
        holds(31, "-4 QUOTA", x -> {
            handles(x);
            x.unlink(1, 1, 10);
            x.snapshot(1);
            x.close(1);
            x.close(2);
            x.close(3);
            x.quota(1, 0);
            due("what is GONE does not count", x.back(1, 2), 1);
        });
        holds(TERMS, "back(), clone() and receive() don't look at LIMITS", x -> {
            house(x);
            x.cut(1, 2, 0);
            x.limit(1, 0, 0);
            due("back", x.back(1, 1), 1);
            due("BLOCKS", x.usage(1, 0), 2);
        });
    }

    private static void backRefused() {
        refused(31, "-1 no such DATASET, SNAPSHOT", -1, Sentences::house, x -> x.back(0, 1), x -> x.back(2, 1),
            x -> x.back(-1, 1), x -> x.back(LEAST, 1), x -> x.back(1, 0), x -> x.back(1, 2), x -> x.back(1, -1),
            x -> x.back(1, GREATEST));
        Run two = x -> {
            house(x);
            x.clone(1);
            x.snapshot(2);
        };
        refused(31, "-3 it is of another one", -3, two, x -> x.back(1, 2), x -> x.back(2, 1));
        Run later = x -> {
            house(x);
            x.snapshot(1);
        };
        refused(31, "or this one has one made later", -3, later, x -> x.back(1, 1));
        Run narrow = x -> {
            house(x);
            x.cut(1, 2, 0);
            x.quota(1, 1);
        };
        refused(31, "-4 QUOTA", -4, narrow, x -> x.back(1, 1));
        refused(TERMS, "all from snapshot() to quota()", -5, Sentences::guest, x -> x.back(1, 1));
        first(31, -1, Sentences::guest, x -> x.back(2, 1), x -> x.back(1, 2));
        first(31, -3, x -> {
            later.on(x);
            x.as(1);
        }, x -> x.back(1, 1));
        first(31, -5, x -> {
            narrow.on(x);
            x.as(1);
        }, x -> x.back(1, 1));
    }

    private static void destroy() {
        holds(32, "A DATASET (t above 0) or SNAPSHOT (below 0) is no more: how many BLOCKS are held no more", x -> {
            house(x);
            x.clone(1);
            x.write(2, 2, 59, 9, 2);
            x.write(2, 4, 0, 9, 1);
            due("of a DATASET", x.destroy(2), 3);
            due("it is no more", x.told(2, 3), -1);
            due("what another one has is held", x.destroy(-1), 0);
            due("it is no more", x.told(-1, 3), -1);
            x.snapshot(1);
            x.cut(1, 2, 60);
            due("of a SNAPSHOT", x.destroy(-2), 1);
            due("held", x.held(0, false), 1);
        });
        holds(32, "HANDLES for it are closed", x -> {
            house(x);
            x.clone(1);
            due("of 2", x.open(2, 2), 1);
            due("of 1", x.open(1, 2), 2);
            x.write(2, 2, 0, 9, 1);
            x.unlink(2, 1, 10);
            due("what has no ENTRY is held no more", x.destroy(2), 1);
            due("closed", x.handle(1, 0), -1);
            due("another one's is not", x.handle(2, 0), 1);
            due("the least", x.open(1, 4), 1);
        });
        holds(32, "the SNAPSHOT is on HOLD, or an ORIGIN", x -> {
            house(x);
            x.clone(1);
            x.hold(1, true);
            due("both", x.destroy(-1), -3);
            x.destroy(2);
            due("on HOLD", x.destroy(-1), -3);
            x.hold(1, false);
            due("none of these", x.destroy(-1), 0);
        });
        holds(32, "-3 the DATASET has SNAPSHOTS, or is the only one", x -> {
            house(x);
            x.clone(1);
            x.snapshot(2);
            due("has a SNAPSHOT", x.destroy(2), -3);
            x.destroy(-2);
            due("has none", x.destroy(2), 0);
            x.destroy(-1);
            due("the only one", x.destroy(1), -3);
            x.snapshot(1);
            x.clone(3);
            due("not the only one, but its SNAPSHOT is the other one's ORIGIN", x.destroy(-3), -3);
        });
    }

    private static void destroyRefused() {
        refused(32, "-1 there is none", -1, Sentences::house, x -> x.destroy(0), x -> x.destroy(2),
            x -> x.destroy(-2), x -> x.destroy(LEAST), x -> x.destroy(LEAST + 1), x -> x.destroy(GREATEST));
        refused(32, "-3 the DATASET has SNAPSHOTS", -3, x -> {
            house(x);
            x.clone(1);
            x.snapshot(2);
        }, x -> x.destroy(1), x -> x.destroy(2));
        refused(32, "or is the only one", -3, Sentences::bare, x -> x.destroy(1));
        Run onHold = x -> {
            house(x);
            x.hold(1, true);
        };
        refused(32, "the SNAPSHOT is on HOLD", -3, onHold, x -> x.destroy(-1));
        refused(32, "or an ORIGIN", -3, x -> {
            house(x);
            x.clone(1);
        }, x -> x.destroy(-1));
        refused(TERMS, "all from snapshot() to quota()", -5, Sentences::guest, x -> x.destroy(-1));
        refused(TERMS, "all from snapshot() to quota()", -5, x -> {
            house(x);
            x.clone(1);
            x.as(1);
        }, x -> x.destroy(2));
        first(32, -1, Sentences::guest, x -> x.destroy(2), x -> x.destroy(-2));
        first(32, -3, x -> {
            onHold.on(x);
            x.as(1);
        }, x -> x.destroy(-1), x -> x.destroy(1));
    }

    private static void hold() {
        holds(33, "A SNAPSHOT is on HOLD, or not any more: whether it was (1, 0)", x -> {
            house(x);
            due("not at first", x.hold(1, false), 0);
            due("on", x.hold(1, true), 0);
            due("on again", x.hold(1, true), 1);
            due("told", x.told(-1, 2), 1);
            due("off", x.hold(1, false), 1);
            due("told", x.told(-1, 2), 0);
        });
        refused(33, "-1 no such SNAPSHOT", -1, Sentences::house, x -> x.hold(0, true), x -> x.hold(2, true),
            x -> x.hold(-1, true), x -> x.hold(LEAST, true), x -> x.hold(GREATEST, false));
        refused(TERMS, "all from snapshot() to quota()", -5, Sentences::guest, x -> x.hold(1, true),
            x -> x.hold(1, false));
        first(33, -1, Sentences::guest, x -> x.hold(2, true));
        holds(33, "whether it was", x -> {
            house(x);
            x.hold(1, true);
            x.hold(1, false);
            x.hold(1, true);
            x.hold(1, false);
            x.destroy(-1);
            x.snapshot(1);
            due("a new one is not", x.told(-2, 2), 0);
        });
    }

    private static void quota() {
        holds(34, "A DATASET's QUOTA: what it was", x -> {
            house(x);
            due("the greatest", x.quota(1, 400), 400);
            due("just so many", x.quota(1, 2), 400);
            x.cut(1, 2, 0);
            due("the least", x.quota(1, 0), 2);
            due("more", x.quota(1, 1), 0);
        });
        refused(34, "-1 no such DATASET", -1, Sentences::house, x -> x.quota(0, 5), x -> x.quota(2, 5),
            x -> x.quota(-1, 5), x -> x.quota(LEAST, 5), x -> x.quota(GREATEST, 5));
        refused(34, "-2 it is not 0 .. 400", -2, Sentences::house, x -> x.quota(1, -1), x -> x.quota(1, 401),
            x -> x.quota(1, LEAST), x -> x.quota(1, GREATEST));
        refused(34, "-3 its TREE has more", -3, Sentences::house, x -> x.quota(1, 1), x -> x.quota(1, 0));
        refused(TERMS, "all from snapshot() to quota()", -5, Sentences::guest, x -> x.quota(1, 2));
        first(34, -1, Sentences::guest, x -> x.quota(2, 401));
        first(34, -2, Sentences::guest, x -> x.quota(1, -1));
        first(34, -3, Sentences::guest, x -> x.quota(1, 1));
    }

    private static void held() {
        Run shared = x -> {
            house(x);
            x.write(1, 2, 0, 9, 1);
            x.clone(1);
            x.write(2, 4, 59, 9, 2);
        };
        holds(35, "How many BLOCKS are held, by all TREES (t = 0)", x -> {
            due("none", x.held(0, false), 0);
            shared.on(x);
            due("each once", x.held(0, false), 5);
        });
        holds(35, "by this one", x -> {
            due("none", x.held(1, false), 0);
            shared.on(x);
            due("1", x.held(1, false), 2);
            due("2", x.held(2, false), 4);
            due("-1", x.held(-1, false), 2);
        });
        holds(35, "or, by this one alone (which is not another one's, too): alone", x -> {
            due("none", x.held(1, true), 0);
            shared.on(x);
            due("1", x.held(1, true), 1);
            due("2", x.held(2, true), 2);
            due("-1", x.held(-1, true), 0);
            x.cut(2, 2, 0);
            due("-1", x.held(-1, true), 1);
        });
        refused(35, "-1 no such TREE", -1, Sentences::house, x -> x.held(2, false), x -> x.held(2, true),
            x -> x.held(-2, false), x -> x.held(LEAST, true), x -> x.held(GREATEST, false));
        refused(35, "(0 and alone: -2)", -2, Sentences::house, x -> x.held(0, true));
    }

    private static void told() {
        Run stage = x -> {
            house(x);
            x.snapshot(1);
            x.clone(2);
            x.quota(2, 77);
            x.hold(2, true);
            x.snapshot(2);
            x.unlink(2, 1, 10);
        };
        holds(36, "what = 0 its ORIGIN (0), of a SNAPSHOT its DATASET", x -> each(x, stage, 0, 0, 2, 1, 1, 2));
        holds(36, "1 how many SNAPSHOTS it has (0)", x -> each(x, stage, 1, 2, 1, 0, 0, 0));
        holds(36, "2 QUOTA, of a SNAPSHOT whether it is on HOLD", x -> each(x, stage, 2, 400, 77, 0, 1, 0));
        holds(36, "3 how many NODES", x -> each(x, stage, 3, 5, 4, 5, 5, 5));
        holds(36, "3 how many NODES", x -> {
            due("the ROOT alone", x.told(1, 3), 1);
            manyNodes(x);
            due("all", x.told(1, 3), 36);
            x.open(1, 4);
            x.unlink(1, 3, 30);
            due("one without ENTRIES, too", x.told(1, 3), 36);
            x.close(1);
            due("GONE", x.told(1, 3), 35);
        });
        refused(36, "-1 there is none", -1, Sentences::house, x -> x.told(0, 0), x -> x.told(2, 0),
            x -> x.told(-2, 0), x -> x.told(LEAST, 0), x -> x.told(GREATEST, 3));
        refused(36, "-2 no such what", -2, Sentences::house, x -> x.told(1, 4), x -> x.told(1, -1),
            x -> x.told(-1, 4), x -> x.told(-1, LEAST), x -> x.told(1, GREATEST));
        first(36, -1, Sentences::house, x -> x.told(2, 4));
    }

    /** What DATASETS 1 and 2 and SNAPSHOTS 1, 2 and 3 are told to have. */
    private static void each(PoolHouse x, Run stage, int what, int... due) {
        stage.on(x);
        int[] t = {1, 2, -1, -2, -3};
        for (int i = 0; i < t.length; i++) {
            due("told(" + t[i] + ", " + what + ")", x.told(t[i], what), due[i]);
        }
    }

    private static void differ(String words, int node, Run change) {
        holds(37, words, x -> {
            house(x);
            x.attribute(1, 2, 9, 9, true);
            x.snapshot(1);
            change.on(x);
            due("the first", x.differs(1, -2, 0), node);
            due("no other", x.differs(1, -2, 1), -2);
            due("the other way round", x.differs(-2, 1, 0), node);
            due("no other", x.differs(-2, 1, 1), -2);
        });
    }

    private static void differs() {
        holds(37, "The k-th NODE number, from 0, that differs between two TREES", x -> {
            house(x);
            x.rights(1, 1, 0);
            x.rights(1, 5, 0);
            x.rights(1, 3, 0);
            due("0", x.differs(1, -1, 0), 1);
            due("1", x.differs(1, -1, 1), 3);
            due("2", x.differs(1, -1, 2), 5);
            due("3", x.differs(1, -1, 3), -2);
            due("itself", x.differs(1, 1, 0), -2);
        });
        holds(37, "that one has and the other one not", x -> {
            house(x);
            x.make(1, 3, 50, 1);
            x.unlink(1, 1, 40);
            due("its DIRECTORY", x.differs(1, -1, 0), 1);
            due("its DIRECTORY", x.differs(1, -1, 1), 3);
            due("it", x.differs(1, -1, 2), 5);
            due("the new one", x.differs(1, -1, 3), 6);
            due("the new one", x.differs(-1, 1, 3), 6);
        });
        holds(37, "that one has and the other one not", x -> {
            handles(x);
            x.unlink(1, 3, 30);
            x.snapshot(1);
            x.close(4);
            due("one without ENTRIES", x.differs(1, -2, 0), 4);
            due("and no other", x.differs(1, -2, 1), -2);
        });
        differ("of another kind", 4, x -> {
            x.unlink(1, 3, 30);
            x.make(1, 3, 30, 2);
        });
        differ("LENGTH", 2, x -> x.cut(1, 2, 62));
        differ("LENGTH", 4, x -> x.cut(1, 4, 1));
        differ("bytes", 2, x -> x.write(1, 2, 60, 3, 1));
        differ("bytes", 2, x -> x.write(1, 2, 0, 1, 1));
        differ("ENTRIES (NAMES and NODES)", 3, x -> x.rename(1, 3, 30, 3, 31));
        differ("ENTRIES (NAMES and NODES)", 3, x -> x.link(1, 2, 3, 31));
        differ("ENTRIES (NAMES and NODES)", 1, x -> {
            x.rename(1, 1, 10, 1, 11);
            x.rename(1, 1, 40, 1, 10);
            x.rename(1, 1, 11, 1, 40);
        });
        differ("PATH", 5, x -> {
            x.unlink(1, 1, 40);
            linkTo(x, 1, 40, false, 20);
        });
        differ("PATH", 5, x -> {
            x.unlink(1, 1, 40);
            linkTo(x, 1, 40, true, 21);
        });
        differ("PATH", 5, x -> {
            x.unlink(1, 1, 40);
            linkTo(x, 1, 40, true, 20, 0);
        });
        differ("OWNER", 4, x -> x.own(1, 4, 1));
        differ("RIGHTS", 4, x -> x.rights(1, 4, 60));
        differ("ATTRIBUTES", 2, x -> x.attribute(1, 2, 9, 8, true));
        differ("ATTRIBUTES", 2, x -> x.attribute(1, 2, 8, 9, true));
        differ("ATTRIBUTES", 2, x -> x.attribute(1, 2, 9, 9, false));
        differ("ATTRIBUTES", 2, x -> {
            x.attribute(1, 2, 9, 9, false);
            x.attribute(1, 2, 8, 9, true);
        });
        differ("bytes", -2, x -> x.write(1, 2, 60, 2, 1));
        holds(37, "bytes", x -> {
            house(x);
            x.cut(1, 4, 60);
            x.snapshot(1);
            x.write(1, 4, 0, 7, 1);
            due("a HOLE and a BLOCK", x.differs(1, -2, 0), 4);
            due("a BLOCK and a HOLE", x.differs(-2, 1, 0), 4);
        });
        differ("bytes", -2, x -> {
            x.cut(1, 4, 0);
            x.write(1, 2, 60, 0, 1);
            x.write(1, 2, 60, 2, 1);
        });
        holds(37, "bytes", x -> {
            house(x);
            x.write(1, 2, 60, 0, 1);
            x.snapshot(1);
            x.cut(1, 2, 60);
            x.cut(1, 2, 61);
            due("a HOLE is as a BLOCK of 0", x.differs(1, -2, 0), -2);
            due("though it is none", x.held(1, false), 1);
        });
    }

    private static void differsRefused() {
        refused(37, "-1 no such TREE", -1, Sentences::house, x -> x.differs(0, 1, 0), x -> x.differs(1, 0, 0),
            x -> x.differs(2, 1, 0), x -> x.differs(1, 2, 0), x -> x.differs(-2, 1, 0), x -> x.differs(1, -2, 0),
            x -> x.differs(LEAST, 1, 0), x -> x.differs(1, GREATEST, 0));
        refused(37, "-2 there is no such one", -2, x -> {
            house(x);
            x.rights(1, 4, 0);
        }, x -> x.differs(1, -1, 1), x -> x.differs(1, -1, -1), x -> x.differs(1, -1, LEAST),
            x -> x.differs(1, -1, GREATEST), x -> x.differs(1, 1, 0));
        first(37, -1, Sentences::house, x -> x.differs(2, 1, -1), x -> x.differs(1, 2, -1));
        holds(37, "-2 there is no such one", x -> {
            manyNodes(x);
            x.snapshot(1);
            x.rights(1, 36, 0);
            due("the last NODE", x.differs(1, -2, 0), 36);
            due("no other", x.differs(1, -2, 1), -2);
            due("36 of 36", x.differs(1, -1, 32), 36);
        });
    }

    private static void send() {
        holds(38, "from the TREE of a SNAPSHOT to that of another one of the same DATASET (or of itself: then it "
            + "leads to the same): 1", x -> {
                house(x);
                x.write(1, 4, 0, 7, 1);
                x.snapshot(1);
                due("to another one", x.send(1, 2), 1);
                x.clone(1);
                due("there", x.receive(2), 1);
                due("its byte", x.read(2, 4, 0), 7);
                due("to an earlier one", x.send(2, 1), 1);
                due("back", x.receive(2), 0);
                due("LENGTH", x.about(2, 4, 1), 0);
                due("to itself", x.send(1, 1), 1);
                due("the same", x.receive(2), 0);
                due("the same", x.differs(2, -1, 0), -2);
            });
        holds(38, "(It is one at a time, none at first, and goes by a crash.)", x -> {
            due("none at first", x.receive(1), -3);
            house(x);
            x.write(1, 4, 0, 7, 1);
            x.snapshot(1);
            x.send(1, 1);
            x.send(2, 2);
            due("the latter", x.receive(1), 0);
            x.clone(1);
            due("not the former", x.receive(2), -3);
            due("refused", x.send(1, 3), -1);
            due("it stays", x.receive(1), 0);
            x.destroy(-2);
            due("also without its SNAPSHOT", x.receive(1), 0);
            due("not crashed", x.crash(5), -2);
            due("it stays", x.receive(1), 0);
            x.crash(4);
            due("gone by a crash", x.receive(1), -3);
        });
        holds(TERMS, "At most 400 BLOCKS are held by all TREES of DATASETS and SNAPSHOTS together", x -> {
            house(x);
            x.write(1, 4, 59, 7, 2);
            x.snapshot(1);
            x.send(1, 2);
            due("the STREAM holds none", x.held(0, false), 4);
            x.cut(1, 2, 0);
            x.cut(1, 4, 0);
            x.write(1, 4, 0, 7, 1);
            due("alone", x.held(1, true), 1);
            due("alone", x.held(-2, true), 2);
            due("of its end", x.destroy(-2), 2);
            due("of its beginning", x.destroy(-1), 2);
            due("held", x.held(0, false), 1);
            due("oddities", x.oddities(), 0);
        });
        refused(38, "-1 no such SNAPSHOT", -1, Sentences::house, x -> x.send(0, 1), x -> x.send(1, 0),
            x -> x.send(2, 1), x -> x.send(1, 2), x -> x.send(-1, 1), x -> x.send(1, -1), x -> x.send(LEAST, 1),
            x -> x.send(1, GREATEST));
        Run two = x -> {
            house(x);
            x.clone(1);
            x.snapshot(2);
        };
        refused(38, "-3 they are of different ones", -3, two, x -> x.send(1, 2), x -> x.send(2, 1));
        refused(TERMS, "send(), receive(): to be USER 0", -5, Sentences::guest, x -> x.send(1, 1));
        first(38, -1, Sentences::guest, x -> x.send(2, 1), x -> x.send(1, 2));
        first(38, -3, x -> {
            two.on(x);
            x.as(1);
        }, x -> x.send(1, 2));
    }

    private static void receive() {
        holds(39, "becomes that to which it leads, and is TAKEN UP", x -> {
            house(x);
            x.unlink(1, 1, 10);
            x.make(1, 1, 50, 2);
            x.attribute(1, 3, 7, 7, true);
            x.own(1, 5, 4);
            x.snapshot(1);
            x.clone(1);
            x.send(1, 2);
            x.open(2, 2);
            x.open(1, 4);
            due("receive", x.receive(2), 0);
            due("the same", x.differs(2, -2, 0), -2);
            due("a HANDLE for it", x.handle(1, 0), -1);
            due("a HANDLE for another one", x.handle(2, 0), 1);
            due("above", x.about(2, 2, 4), 1);
            due("ENTRIES", x.about(2, 2, 2), 1);
        });
        holds(39, "(FILES without ENTRIES left out, there as here)", x -> {
            handles(x);
            x.unlink(1, 1, 10);
            x.snapshot(1);
            due("here it is open", x.about(1, 2, 0), 1);
            x.clone(2);
            due("in 2 it is GONE", x.about(2, 2, 0), -1);
            x.send(2, 2);
            due("there as here", x.receive(2), 0);
            due("it is not sent", x.about(2, 2, 0), -1);
            due("here as there", x.receive(1), 0);
            due("it is GONE", x.about(1, 2, 0), -1);
        });
        holds(39, "(FILES without ENTRIES left out, there as here)", x -> {
            house(x);
            x.unlink(1, 1, 10);
            x.snapshot(1);
            x.send(2, 2);
            x.make(1, 1, 50, 1);
            x.open(1, 2);
            x.unlink(1, 1, 50);
            due("here alone", x.receive(1), 0);
            x.make(1, 1, 50, 1);
            due("with an ENTRY", x.receive(1), -3);
        });
        holds(39, "The STREAM stays", x -> {
            house(x);
            x.write(1, 4, 0, 7, 1);
            x.snapshot(1);
            x.clone(1);
            x.clone(1);
            x.send(1, 2);
            due("receive", x.receive(2), 1);
            due("another one", x.receive(3), 1);
            due("each has its own", x.held(3, true), 1);
            due("the same is another one now", x.receive(2), -3);
        });
        holds(39, "if it is the same (as by differs()) as that from which the STREAM leads", x -> {
            house(x);
            x.write(1, 2, 60, 0, 1);
            x.snapshot(1);
            x.send(2, 2);
            x.cut(1, 2, 60);
            x.cut(1, 2, 61);
            due("a HOLE for a BLOCK of 0 is the same", x.receive(1), 1);
            due("a BLOCK now", x.about(1, 2, 3), 2);
            x.cut(1, 2, 62);
            due("another LENGTH", x.receive(1), -3);
        });
        holds(TERMS, "back(), clone() and receive() don't look at LIMITS", x -> {
            house(x);
            x.write(1, 4, 59, 7, 2);
            x.snapshot(1);
            x.clone(1);
            x.limit(2, 0, 2);
            x.send(1, 2);
            due("receive", x.receive(2), 2);
            due("over it", x.usage(2, 0), 4);
        });
    }

    private static void receivePieces() {
        holds(39, "PIECES that are BLOCKS with the same bytes, or HOLES, both in the DATASET's TREE", x -> {
            house(x);
            x.write(1, 2, 60, 9, 1);
            x.write(1, 2, 180, 8, 1);
            x.snapshot(1);
            x.clone(1);
            x.write(2, 2, 0, 0, 1);
            x.send(1, 2);
            due("two are others", x.receive(2), 2);
            due("one of its own stays", x.held(2, true), 3);
            due("one is a HOLE", x.about(2, 2, 3), 3);
        });
        holds(39, "all others become HOLES or new BLOCKS: how many new BLOCKS", x -> {
            house(x);
            x.write(1, 4, 0, 0, 1);
            x.write(1, 4, 120, 7, 1);
            x.cut(1, 2, 60);
            x.snapshot(1);
            x.clone(1);
            x.send(1, 2);
            due("a BLOCK of 0 is one, too", x.receive(2), 2);
            due("BLOCKS", x.about(2, 4, 3), 2);
            due("HOLES", x.about(2, 2, 3), 1);
            due("bytes", x.read(2, 4, 120), 7);
            x.send(2, 1);
            due("and back", x.receive(2), 1);
            due("HOLES", x.about(2, 4, 3), 0);
            due("bytes", x.read(2, 2, 60), 2);
        });
        holds(39, "(FILES without ENTRIES left out, also such as a HANDLE is open for)", x -> {
            house(x);
            x.unlink(1, 1, 10);
            x.snapshot(1);
            x.make(1, 1, 10, 1);
            x.write(1, 2, 59, 0x0102, 2);
            x.snapshot(1);
            x.send(2, 3);
            x.open(1, 2);
            x.unlink(1, 1, 10);
            due("its BLOCKS don't stay", x.receive(1), 2);
            due("they are new", x.held(1, true), 2);
            due("its byte", x.read(1, 2, 60), 2);
        });
        holds(39, "all others become HOLES or new BLOCKS", x -> {
            house(x);
            x.write(1, 4, 0, 7, 1);
            x.snapshot(1);
            x.clone(2);
            x.write(2, 4, 0, 7, 1);
            x.send(2, 1);
            due("one becomes a HOLE", x.receive(2), 0);
            due("BLOCKS", x.held(2, false), 2);
            due("held", x.held(0, false), 3);
            due("oddities", x.oddities(), 0);
            x.send(1, 2);
            due("one becomes a BLOCK", x.receive(2), 1);
            due("held", x.held(0, false), 4);
            due("oddities", x.oddities(), 0);
        });
        holds(39, "(the NODE a FILE in both)", x -> {
            house(x);
            x.unlink(1, 1, 10);
            x.make(1, 1, 10, 2);
            x.snapshot(1);
            x.clone(1);
            x.send(1, 2);
            due("a FILE becomes a DIRECTORY", x.receive(2), 0);
            due("no BLOCKS", x.held(2, false), 0);
            x.send(2, 1);
            due("and a FILE again", x.receive(2), 2);
            due("its byte", x.read(2, 2, 60), 2);
        });
    }

    private static void receiveRefused() {
        Run sent = x -> {
            house(x);
            x.send(1, 1);
        };
        refused(39, "-1 no such DATASET", -1, sent, x -> x.receive(0), x -> x.receive(2), x -> x.receive(-1),
            x -> x.receive(LEAST), x -> x.receive(GREATEST));
        refused(39, "-3 there is no STREAM", -3, Sentences::house, x -> x.receive(1));
        refused(39, "or the TREE is another one", -3, x -> {
            sent.on(x);
            x.rights(1, 5, 0);
        }, x -> x.receive(1));
        refused(39, "or the TREE is another one", -3, x -> {
            sent.on(x);
            x.make(1, 3, 50, 1);
        }, x -> x.receive(1));
        refused(39, "or the TREE is another one", -3, x -> {
            sent.on(x);
            x.rights(1, 1, 62);
        }, x -> x.receive(1));
        refused(39, "or the TREE is another one", -3, x -> {
            sent.on(x);
            x.open(1, 2);
            x.unlink(1, 1, 10);
        }, x -> x.receive(1));
        refused(TERMS, "send(), receive(): to be USER 0", -5, x -> {
            sent.on(x);
            x.as(1);
        }, x -> x.receive(1));
        refused(39, "-4 BLOCKS, QUOTA", -4, x -> {
            full(x);
            x.clone(1);
        }, x -> x.receive(5));
        Run narrow = x -> {
            house(x);
            x.write(1, 4, 59, 7, 2);
            x.snapshot(1);
            x.clone(1);
            x.quota(2, 3);
            x.send(1, 2);
        };
        refused(39, "QUOTA", -4, narrow, x -> x.receive(2));
        first(39, -1, Sentences::guest, x -> x.receive(2));
        first(39, -3, Sentences::guest, x -> x.receive(1));
        first(39, -5, x -> {
            narrow.on(x);
            x.as(1);
        }, x -> x.receive(2));
        holds(39, "-4 BLOCKS, QUOTA", x -> {
            narrow.on(x);
            x.quota(2, 4);
            due("just so many", x.receive(2), 2);
            due("QUOTA", x.told(2, 2), 4);
        });
    }

    /** Of those bytes that full() writes, and on in the FILES behind, some anew: two BLOCKS each. */
    private static void writeTwice(PoolHouse x, int t, int from, int to) {
        for (int i = from; i < to; i++) {
            x.write(t, 2 + i / 18, i % 18 * 120 + 59, 0x0102, 2);
        }
    }

    private static void receiveRoom() {
        String words = "What would lead to more (looked at when all of the call would be done) has no room";
        holds(TERMS, words, x -> {
            full(x);
            x.destroy(4);
            x.write(1, 2, 59, 9, 2);
            x.snapshot(1);
            x.send(2, 3);
            writeTwice(x, 1, 0, 49);
            due("400", x.held(0, false), 400);
            due("two go, two come", x.receive(2), 2);
            due("400", x.held(0, false), 400);
            x.send(2, 1);
            due("all go", x.receive(3), 0);
            due("300", x.held(0, false), 300);
        });
        holds(TERMS, words, x -> {
            full(x);
            x.destroy(4);
            x.write(1, 2, 59, 9, 2);
            x.snapshot(1);
            x.send(2, 3);
            x.clone(2);
            writeTwice(x, 1, 0, 49);
            due("400", x.held(0, false), 400);
            due("two that another TREE has don't go, two come", x.receive(5), -4);
            x.cut(3, 4, 1560);
            due("398", x.held(0, false), 398);
            due("two come", x.receive(5), 2);
            due("400", x.held(0, false), 400);
        });
        holds(TERMS, words, x -> {
            full(x);
            x.destroy(4);
            x.write(1, 4, 1679, 0x0909, 2);
            x.snapshot(1);
            x.send(2, 3);
            writeTwice(x, 1, 0, 49);
            due("400", x.held(0, false), 400);
            due("one goes, two come", x.receive(2), -4);
            x.cut(3, 4, 1620);
            due("399", x.held(0, false), 399);
            due("one goes, two come", x.receive(2), 2);
            due("400", x.held(0, false), 400);
        });
        holds(TERMS, words, x -> {
            full(x);
            x.destroy(4);
            x.destroy(3);
            x.cut(1, 4, 60);
            x.snapshot(1);
            x.write(1, 4, 0, 9, 1);
            x.snapshot(1);
            x.send(3, 4);
            x.clone(3);
            x.write(5, 4, 59, 1, 1);
            writeTwice(x, 1, 0, 36);
            writeTwice(x, 5, 0, 36);
            x.make(1, 1, 13, 1);
            writeTwice(x, 1, 36, 63);
            x.write(1, 5, 2100, 1, 1);
            due("400", x.held(0, false), 400);
            due("no more", x.write(1, 5, 2000, 1, 1), -4);
            due("the only one of a FILE goes, one comes", x.receive(5), 1);
            due("400", x.held(0, false), 400);
        });
        holds(39, "-4 BLOCKS, QUOTA", x -> {
            full(x);
            x.cut(4, 2, 2040);
            x.cut(4, 3, 0);
            due("362", x.held(0, false), 362);
            x.clone(1);
            due("100 are too many", x.receive(5), -4);
            due("as it was", x.held(5, false), 0);
            x.cut(4, 4, 0);
            x.cut(4, 2, 2039);
            due("334", x.held(0, false), 334);
            x.cut(4, 2, 60);
            due("301", x.held(0, false), 301);
            due("one too many", x.receive(5), -4);
            x.cut(4, 2, 0);
            due("just so many", x.receive(5), 100);
            due("400", x.held(0, false), 400);
        });
    }
}
