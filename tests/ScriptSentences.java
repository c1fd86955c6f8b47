/** The sentences of promises 48 to 52, and what the Terms tell of SCRIPTS. */
final class ScriptSentences extends Sentences {
    private ScriptSentences() {
    }

    static void all() {
        feed();
        end();
        run();
        out();
        line();
        lines();
        words();
        calls();
        digits();
        wanted();
        answers();
        ways();
        waysRefused();
        wrongLines();
    }

    private static void fill(PoolHouse x, int length) {
        for (int i = 0; i < 400; i++) {
            x.feed(0, 0, 0, 0, 0);
        }
        x.end(length);
    }

    private static void feed() {
        holds(48, "Twenty bytes more on the TAPE, those of a first, the highest byte of each first: how many it has",
            x -> {
                due("twenty", x.feed(0x61732037, 0x0a617320, 0x300a7769, 0x7468000a, 0x6173200a), 20);
                due("forty", x.feed(-1, LEAST, GREATEST, 0, 1), 40);
                due("the first nineteen", x.end(10), 40);
                due("run", x.run(), 2);
                due("as 7", x.out(0), '0');
                due("as 0", x.out(2), '7');
            });
        holds(48, "how many it has", x -> {
            for (int i = 1; i <= 399; i++) {
                x.feed(0, 0, 0, 0, 0);
            }
            due("the last twenty", x.feed(1, 2, 3, 4, 5), 8000);
        });
        refused(48, "-4 there is no room for twenty", -4, x -> fill(x, 8000), x -> x.feed(1, 2, 3, 4, 5));
        refused(48, "-4 there is no room for twenty", -4, x -> fill(x, 7981), x -> x.feed(1, 2, 3, 4, 5));
        holds(TERMS, "The TAPE has at most 8000 bytes", x -> {
            fill(x, 7980);
            due("just room", x.feed(1, 2, 3, 4, 5), 8000);
        });
    }

    private static void end() {
        holds(49, "The TAPE keeps its first n bytes: how many it had", x -> {
            due("none of none", x.end(0), 0);
            x.feed(0x61732031, 0, 0, 0, 0);
            due("all", x.end(20), 20);
            due("four", x.end(4), 20);
            due("all of four", x.end(4), 4);
            due("run", x.run(), 1);
            due("none", x.end(0), 0);
            due("as 1", x.as(0), 1);
        });
        refused(49, "-2 n is below 0", -2, x -> x.feed(1, 2, 3, 4, 5), x -> x.end(-1), x -> x.end(LEAST));
        refused(49, "or more than it has", -2, x -> x.feed(1, 2, 3, 4, 5), x -> x.end(21), x -> x.end(8000),
            x -> x.end(GREATEST));
        refused(49, "or more than it has", -2, Sentences::bare, x -> x.end(1));
    }

    private static void run() {
        holds(50, "The TAPE is run as a SCRIPT, and empty then", x -> {
            feed(x, "as 3");
            due("run", x.run(), 1);
            due("empty", x.end(0), 0);
            due("once alone", x.as(5), 3);
            due("nothing to run", x.run(), 0);
            due("no more", x.as(5), 5);
        });
        holds(50, "and empty then", x -> {
            feed(x, "as x\nas 3");
            due("wrong", x.run(), -10);
            due("empty", x.end(0), 0);
        });
        holds(50, "OUT begins anew", x -> {
            script(x, "as 3\nas 0", 2, -2, "0\n3\n");
            script(x, "as 4", 1, -2, "0\n");
            script(x, "", 0, -2, "");
        });
        holds(50, "how many lines were done", x -> {
            script(x, "as 3\n\n   \nas 0\n", 2, -2, "0\n3\n");
            script(x, "as 9\n", 1, -2, "-2\n");
        });
        holds(50, "or, at a wrong line, -10 less its number (from 0 on, those passed over counted, too)", x -> {
            script(x, "x", -10, 0, "");
            script(x, "as 0\nx", -11, 0, "0\n");
            script(x, "\n  \nas 0\n\nx\nas 0", -14, 0, "0\n");
        });
        holds(50, "those passed over counted, too", x -> {
            StringBuilder text = new StringBuilder();
            for (int i = 0; i < 7999; i++) {
                text.append('\n');
            }
            script(x, text.append('x').toString(), -8009, 0, "");
        });
        holds(50, "how many lines were done", x -> {
            StringBuilder text = new StringBuilder();
            for (int i = 0; i < 1600; i++) {
                text.append("as 0\n");
            }
            feed(x, text.toString());
            due("as many as there can be", x.run(), 1600);
            due("the last byte", x.out(3199), 10);
            due("the last answer", x.out(3198), '0');
            due("no more", x.out(3200), -2);
        });
    }

    private static void out() {
        holds(51, "Byte i of OUT", x -> {
            script(x, "as 3\nas 9\nend", -12, 0, "0\n-2\n");
            due("0", x.out(0), '0');
            due("1", x.out(1), 10);
            due("2", x.out(2), '-');
            due("4", x.out(4), 10);
        });
        refused(51, "-2 there is none", -2, Sentences::house, x -> x.out(0), x -> x.out(-1), x -> x.out(LEAST),
            x -> x.out(GREATEST));
        refused(51, "-2 there is none", -2, x -> {
            feed(x, "as 0\nas 0");
            x.run();
        }, x -> x.out(4), x -> x.out(-1));
    }

    private static void line() {
        holds(52, "The number of the wrong word (from 0) of the latest run()", x -> {
            script(x, "x 1 2", -10, 0, "");
            script(x, "as 1 2", -10, 2, "");
            script(x, "rename 1 1 1 1 x", -10, 5, "");
        });
        holds(52, "-2 when it had none, or there was none", x -> {
            due("there was none", x.line(), -2);
            x.feed(0x7878780a, 0, 0, 0, 0);
            due("it is not run yet", x.line(), -2);
            due("run", x.run(), -10);
            due("wrong", x.line(), 0);
            script(x, "as 0", 1, -2, "0\n");
            script(x, "x", -10, 0, "");
            script(x, "", 0, -2, "");
        });
    }

    private static void lines() {
        holds(TERMS, "LINES, each up to the next byte 10, or the end", x -> {
            script(x, "as 1\nas 2", 2, -2, "0\n1\n");
            script(x, "as 1\nas 2\n", 2, -2, "2\n1\n");
            script(x, "as 1\r\nas 2\n", -10, 1, "");
            script(x, "as 1 as 2", -10, 2, "");
        });
        holds(TERMS, "lines without words are passed over", x -> {
            script(x, "\n", 0, -2, "");
            script(x, "    ", 0, -2, "");
            script(x, "\n\n  \n as 1\n\n", 1, -2, "0\n");
        });
        holds(TERMS, "(but its own five: feed, end, run, out, line)", x -> {
            wrongWord(x, "feed 1 1 1 1 1", 0);
            wrongWord(x, "end 0", 0);
            wrongWord(x, "run", 0);
            wrongWord(x, "out 0", 0);
            wrongWord(x, "line", 0);
        });
    }

    private static void words() {
        holds(TERMS, "WORDS in them parted by one or more 32", x -> {
            script(x, "as 1", 1, -2, "0\n");
            script(x, "   as    2   ", 1, -2, "1\n");
            wrongWord(x, "as\t1", 0);
            wrongWord(x, "as1", 0);
            wrongWord(x, "as 1\t", 1);
            wrongWord(x, "as 1" + (char) 0, 1);
            wrongWord(x, "as 1" + (char) 160, 1);
        });
        holds(TERMS, "A line is the name of a call told below", x -> {
            wrongWord(x, "As 1", 0);
            wrongWord(x, "a 1", 0);
            wrongWord(x, "ass 1", 0);
            wrongWord(x, "oddities() ", 0);
            wrongWord(x, "5 1", 0);
            wrongWord(x, "@0", 0);
            wrongWord(x, "/", 0);
            wrongWord(x, "PoolHouse 4", 0);
            wrongWord(x, "act 0", 0);
            wrongWord(x, "" + (char) 255 + (char) 128, 0);
        });
    }

    /** Each of the calls, with all its numbers and with one less and one more. */
    private static void calls() {
        String[] all = {"make 1 1 50 1 =6", "step 10 =1", "makeLink 1 1 50 1 =-2", "walk 1 1 1 =-2", "linked 1 5 0 =20",
            "find 1 1 10 =2", "write 1 2 0 -1 8 =61", "read 1 2 60 =2", "cut 1 2 7 =61", "link 1 2 3 7 =2",
            "unlink 1 1 10 =2", "rename 1 1 10 3 7 =2", "about 1 2 1 =61", "entry 1 1 2 =40", "own 1 2 7 =0",
            "rights 1 2 7 =61", "attribute 1 2 7 7 1 =0", "attributeOf 1 2 7 =0", "key 1 2 0 =-2", "as 7 =0",
            "usage 1 0 =2", "limit 1 7 7 =400", "lock 1 0 7 2 =-1", "locked 1 7 =-1", "open 1 2 =1", "close 7 =-1",
            "handle 1 1 =-1", "snapshot 1 =2", "clone 1 =2", "back 1 1 =1", "destroy -1 =0", "hold 1 1 =0",
            "quota 1 7 =400", "held 1 1 =0", "told 1 2 =400", "differs 1 -1 0 =-2", "send 1 1 =1", "receive 1 =-3",
            "commit =0", "sync =0", "crash 0 =0", "spoil 1 7 7 =1", "lose 1 =1", "bring 1 1 =-3", "scrub 0 =0",
            "disk 1 =0", "oddities =0"};
        for (String call : all) {
            String text = call.substring(0, call.indexOf(" ="));
            long answer = Long.parseLong(call.substring(call.indexOf('=') + 1));
            int words = text.split(" ").length;
            holds(TERMS, "A line is the name of a call told below (but its own five: feed, end, run, out, line), and "
                + "its numbers in their order", x -> {
                    house(x);
                    lineDone(x, text, answer);
                });
            holds(TERMS, "or too many, or at the first that lacks", x -> {
                wrongWord(x, text + " 1", words);
                if (words > 1) {
                    wrongWord(x, text.substring(0, text.lastIndexOf(' ')), words - 1);
                    wrongWord(x, text.split(" ")[0], 1);
                }
            });
        }
    }

    private static void digits() {
        holds(TERMS, "each some digits (1 to 18), perhaps with - before them", x -> {
            lineDone(x, "as 000000000000000007", 0);
            wrongWord(x, "as 0000000000000000007", 1);
            lineDone(x, "as -000000000000000000", 7);
            wrongWord(x, "as -0000000000000000000", 1);
            wrongWord(x, "as -", 1);
            wrongWord(x, "as --1", 1);
            wrongWord(x, "as 1-", 1);
            wrongWord(x, "as +1", 1);
            wrongWord(x, "as 1.", 1);
            wrongWord(x, "as 0x1", 1);
            wrongWord(x, "as 1:", 1);
            wrongWord(x, "as ;", 1);
            wrongWord(x, "as /", 1);
        });
        holds(TERMS, "each some digits (1 to 18)", x -> {
            script(x, "attribute 1 1 1 999999999999999999 1\nattributeOf 1 1 1", 2, -2, "0\n999999999999999999\n");
            script(x, "attribute 1 1 1 -999999999999999999 1\nattributeOf 1 1 1", 2, -2, "1\n-999999999999999999\n");
            wrongWord(x, "attribute 1 1 1 1000000000000000000 1", 4);
        });
    }

    private static void wanted() {
        holds(TERMS, "what is wanted as an int must be one", x -> {
            lineDone(x, "as 2147483647", -2);
            wrongWord(x, "as 2147483648", 1);
            lineDone(x, "as -2147483648", -2);
            wrongWord(x, "as -2147483649", 1);
            wrongWord(x, "as 4294967296", 1);
            lineDone(x, "spoil 1 2147483647 1", 1);
        });
        holds(TERMS, "as a truth 0 or 1", x -> {
            house(x);
            lineDone(x, "scrub 1", 0);
            lineDone(x, "scrub 0", 0);
            lineDone(x, "scrub -0", 0);
            lineDone(x, "scrub 01", 0);
            wrongWord(x, "scrub 2", 1);
            wrongWord(x, "scrub -1", 1);
            wrongWord(x, "hold 1 10", 2);
            wrongWord(x, "walk 1 1 2", 3);
            wrongWord(x, "makeLink 1 1 5 -1", 4);
            wrongWord(x, "attribute 1 1 1 1 2", 5);
            wrongWord(x, "bring 1 4294967297", 2);
        });
        holds(TERMS, "as a truth 0 or 1", x -> {
            house(x);
            script(x, "attribute 1 1 1 5 1\nattribute 1 1 1 5 0\nattribute 1 1 1 5 1", 3, -2, "0\n1\n0\n");
            script(x, "held 1 0\nheld 1 1\nhold 1 1\nhold 1 0\nhold 1 0", 5, -2, "2\n0\n0\n1\n0\n");
            script(x, "step 20\nmakeLink 1 1 50 0\nlinked 1 @1 -1\nstep 50\nwalk 1 1 0\nstep 50\nwalk 1 1 1", 7, -2,
                "1\n6\n0\n1\n6\n1\n3\n");
            script(x, "lose 2\nbring 2 0\nscrub 1\nscrub 0", 4, -2, "1\n1\n0\n2\n");
            script(x, "step 20\nmakeLink 1 1 51 1\nlinked 1 @1 -1", 3, -2, "1\n7\n1\n");
        });
        holds(TERMS, "whichever way it is told: another number is a wrong word", x -> {
            house(x);
            script(x, "attribute 1 1 1 2147483648 1\nattributeOf 1 1 1\nas @1", -12, 1, "0\n2147483648\n");
            script(x, "attribute 1 1 1 2147483647 1\nattributeOf 1 1 1\nas @1", 3, -2, "1\n2147483647\n-2\n");
            script(x, "find 1 1 10\nheld 1 @0", -11, 2, "2\n");
            script(x, "disk 9\nheld 1 @0", -11, 2, "-1\n");
            script(x, "held 1 /10", -10, 2, "");
            script(x, "held 1 /11\nheld 1 /", 2, -2, "2\n0\n");
        });
    }

    private static void answers() {
        holds(TERMS, "or @ and digits (1 to 18): the answer of the line that was the so-many-th done in this run (from "
            + "0 on; it must be done)", x -> {
                script(x, "make 1 1 5 2\nmake 1 @0 6 1\nwrite 1 @1 0 7 1\nread @2 @1 0", 4, -2, "2\n3\n1\n7\n");
                script(x, "\n\nas 3\n\nas @0\n\nas @1", 3, -2, "0\n3\n0\n");
                lineDone(x, "as 0", 3);
                script(x, "as 0\nas @000000000000000000", 2, -2, "0\n0\n");
                script(x, "as 0\nas @0000000000000000000", -11, 1, "0\n");
            });
        holds(TERMS, "it must be done", x -> {
            wrongWord(x, "as @0", 1);
            script(x, "as 0\nas @1", -11, 1, "0\n");
            script(x, "as 0\nas @0\nas @2", -12, 1, "0\n0\n");
            script(x, "as 0\nas @999999999999999999", -11, 1, "0\n");
            wrongWord(x, "as @", 1);
            script(x, "as 0\nas @-0", -11, 1, "0\n");
            script(x, "as 0\nas -@0", -11, 1, "0\n");
            script(x, "as 0\nas @0x", -11, 1, "0\n");
            script(x, "as 0\nas @@0", -11, 1, "0\n");
        });
        holds(TERMS, "the answers stand in OUT, each in tens with 10 behind", x -> {
            x.attribute(1, 1, 1, Long.MIN_VALUE, true);
            x.attribute(1, 1, 2, Long.MAX_VALUE, true);
            x.attribute(1, 1, 3, -10, true);
            script(x, "attributeOf 1 1 1\nattributeOf 1 1 2\nattributeOf 1 1 3\nattributeOf 1 1 4", 4, -2,
                "-9223372036854775808\n9223372036854775807\n-10\n0\n");
            script(x, "attributeOf 1 1 1\nattribute 1 1 4 @0 1\nattributeOf 1 1 4", 3, -2,
                "-9223372036854775808\n0\n-9223372036854775808\n");
        });
        holds(TERMS, "the answers stand in OUT", x -> {
            x.attribute(1, 1, 1, Long.MIN_VALUE, true);
            StringBuilder text = new StringBuilder();
            for (int i = 0; i < 444; i++) {
                text.append("attributeOf 1 1 1\n");
            }
            feed(x, text.toString());
            due("as many as there can be", x.run(), 444);
            due("the last byte", x.out(444 * 21 - 1), 10);
            due("the last digit", x.out(444 * 21 - 2), '8');
            due("no more", x.out(444 * 21), -2);
        });
    }

    private static void ways() {
        holds(TERMS, "the NODE that is found from the ROOT of the TREE of the first number", x -> {
            house(x);
            x.unlink(1, 3, 30);
            script(x, "about 1 /10 1\nabout 1 /20/30 0\nabout -1 /20/30 0\nabout -1 /20 4", 4, -2, "61\n-1\n1\n1\n");
            script(x, "told -1 1\nabout -1 /20/30 2", 2, -2, "0\n1\n");
            script(x, "snapshot 1\nabout @0 /20 1", 2, -2, "2\n-1\n");
        });
        holds(TERMS, "(/ alone: the ROOT)", x -> {
            house(x);
            script(x, "about 1 / 1\nfind 1 / 10\ntold 1 /", 3, -2, "3\n2\n1\n");
            script(x, "about 7 / 1\ntold 1 0\nabout 0 / 0", 3, -2, "-1\n0\n-1\n");
            script(x, "held 0 /\nheld 1 /\nheld 0 /10", 3, -2, "2\n0\n2\n");
        });
        holds(TERMS, "in place of any number behind the first", x -> {
            house(x);
            script(x, "rename 1 / 10 /20 31\nlink 1 /20/31 / /20/31\nfind 1 1 2", 3, -2, "2\n2\n2\n");
            script(x, "attribute 1 1 7 /20 1\nattributeOf 1 1 7\nwrite 1 /20/30 0 /20/31 1\nread 1 4 0", 4, -2,
                "0\n3\n1\n2\n");
            wrongWord(x, "as /10", 1);
            wrongWord(x, "find / 1 10", 1);
        });
        holds(TERMS, "by ENTRIES alone and without RIGHTS (LINKS are not followed)", x -> {
            house(x);
            x.rights(1, 1, 0);
            x.rights(1, 3, 0);
            x.as(1);
            script(x, "about 1 /20/30 0\nabout 1 /40 0\nabout 1 /40/30 0", 3, -2, "1\n3\n-1\n");
        });
        holds(TERMS, "if there is none it is 0", x -> {
            house(x);
            script(x, "told 1 /11\ntold 1 /10/10\ntold 1 /20/31\ntold 1 /20/31/30", 4, -2, "0\n0\n0\n0\n");
            script(x, "usage 1 /11\nusage 1 /20/30/1", 2, -2, "2\n2\n");
            script(x, "differs 1 1 /\nhandle 7 /11\nback 1 /11", 3, -2, "-2\n-1\n-1\n");
        });
    }

    private static void waysRefused() {
        holds(TERMS, "/ and NAMES (1 to 7 digits each) with / between", x -> {
            house(x);
            script(x, "about 1 /0000010 1\nabout 1 /0000020/0000030 0\nabout 1 /1000000 0", 3, -2, "61\n1\n-1\n");
            wrongWord(x, "about 1 /00000010 1", 2);
            wrongWord(x, "about 1 // 1", 2);
            wrongWord(x, "about 1 /10/ 1", 2);
            wrongWord(x, "about 1 /20//30 1", 2);
            wrongWord(x, "about 1 //10 1", 2);
            wrongWord(x, "about 1 10/ 1", 2);
            wrongWord(x, "about 1 20/30 1", 2);
            wrongWord(x, "about 1 /-10 1", 2);
            wrongWord(x, "about 1 /@0 1", 2);
            wrongWord(x, "about 1 /20/x 1", 2);
            wrongWord(x, "about 1 /99/x 1", 2);
            wrongWord(x, "about 9 /x 1", 2);
        });
        holds(TERMS, "/ and NAMES (1 to 7 digits each)", x -> {
            x.make(1, 1, 1000000, 2);
            script(x, "about 1 /1000000 0\nabout 1 /1000000/1000000 0\nabout 1 /9999999 0\nabout 1 /0 0", 4, -2,
                "2\n-1\n-1\n-1\n");
        });
        holds(TERMS, "/ and NAMES", x -> {
            StringBuilder way = new StringBuilder();
            for (int i = 1; i <= 35; i++) {
                x.make(1, i, 1, 2);
                way.append("/1");
            }
            script(x, "about 1 " + way + " 4\nabout 1 " + way + "/1 4", 2, -2, "35\n-1\n");
        });
    }

    private static void wrongLines() {
        holds(TERMS, "A line is WRONG at its first word that is none of these, or too many, or at the first that lacks",
            x -> {
                wrongWord(x, "x y", 0);
                wrongWord(x, "make x y 1 1 1 1", 1);
                wrongWord(x, "make 1 x", 2);
                wrongWord(x, "make 1 1 5 x 7", 4);
                wrongWord(x, "make 1 1 5 1 x", 5);
                wrongWord(x, "make", 1);
                wrongWord(x, "make 1 1 5", 4);
                wrongWord(x, "commit x", 1);
                due("nothing is done", x.find(1, 1, 5), -1);
            });
        holds(TERMS, "All up to the first wrong line are done", x -> {
            script(x, "make 1 1 5 1\nmake 1 1 6 1\nmake 1 1 7\nmake 1 1 8 1\nx", -12, 4, "2\n3\n");
            due("done", x.find(1, 1, 6), 3);
            due("not done", x.find(1, 1, 8), -1);
            due("ACTS", x.commit(), 2);
        });
        holds(TERMS, "(in a script, too)", x -> {
            house(x);
            script(x, "lose 1\nlose 2\nscrub 0\nrights 1 1 61\ncrash 0\ndisk 1\nbring 1 1\nscrub 0", 8, -2,
                "1\n-3\n-3\n61\n1\n2\n1\n1\n");
        });
        holds(TERMS, "the CALLER is 0, the PATH under way is empty (TAPE, OUT and what line() tells stay)", x -> {
            script(x, "as 3\nstep 5\ncrash 0\nstep 6\nas 0", 5, -2, "0\n1\n0\n1\n0\n");
        });
    }
}
