/** Boundary cases of promises 4 to 21: refused calls, NONEs, the order of exceptions, what stays and what goes. */
public final class EdgeCallsTest {
    private static final int[] WILD = {Integer.MIN_VALUE, Integer.MIN_VALUE + 1, -65536, -2, 1 << 16, 1 << 24,
        Integer.MAX_VALUE - 1, Integer.MAX_VALUE};
    private static final String HEAD = "header h { a : 8; } use x : h; meta m : 8; array r : 8 [3]; array big : 64 [64];"
            + " state s { extract x; goto accept; } action put (p : 16) { out_port = p; } action other () { drop; } ";
    private static final String TABLES = "table t { key x.a : exact; actions put; default other (); room 2 ways 1 stash 1; }"
            + " table u { key m : masked; actions put; default put (7); room 2; } ";
    private static final String WHOLE = HEAD + TABLES + "control { if x.a == 1 { apply t; } else { store r [2] x.a; }"
            + " store big [63] 0x8000000000000000; apply u; } emit x;";
    private static final int STEPS = 5;

    public static void main(String[] args) {
        readOfNothing();
        readThatThrows();
        readThatAnswers();
        whatStaysBehindRead();
        faults();
        sizesAtTheMost();
        sizesWithoutAProgram();
        whatLayRefuses();
        theOrderInLay();
        homelessSince();
        stepsThatAreNot();
        stagesThatAreNot();
        theOrderInPacket();
        bytesOfAPacket();
        keysAndData();
        theOrderInEntry();
        theOrderInRun();
        outs();
        bytes();
        whatStepsDid();
        words();
        entries();
        counts();
        behindTheMost();
        Works.done();
    }

    private static PacketWorks laid() {
        return Works.laid(WHOLE);
    }

    private static void readOfNothing() {
        Works.sentence("4: IllegalArgumentException: a FAULT (there is no program then)");
        PacketWorks x = laid();
        Works.dueThrow("read() of an empty tape", IllegalArgumentException.class, x::read);
        Works.due("fault(0)", x.fault(0), 1);
        Works.due("fault(1)", x.fault(1), 0);
        Works.due("size(7)", x.size(7), -1);
        Works.due("step(0, 0)", x.step(0, 0), -1);
        Works.dueThrow("lay()", IllegalStateException.class, () -> x.lay(1, 0, 0));
        Works.dueThrow("packet()", IllegalStateException.class, () -> x.packet(0));
        Works.dueThrow("entry()", IndexOutOfBoundsException.class, () -> x.entry(0, 0, 0, 0));
        Works.dueThrow("run()", IllegalStateException.class, () -> x.run(0));
    }

    private static void readThatThrows() {
        Works.sentence("4: Behind a read() that throws the tape is empty, too; key() and datum() stay");
        PacketWorks x = laid();
        x.key(0, 9, -1);
        x.datum(0, 321);
        Works.put(x, "header h { a : 7; }");
        Works.dueThrow("read()", IllegalArgumentException.class, x::read);
        Works.due("the tape is empty", x.end(0), 0);
        Works.due("fault(0)", x.fault(0), 8);
        Works.dueThrow("read()", IllegalArgumentException.class, x::read);
        Works.due("fault(0) of the latest", x.fault(0), 1);
        Works.put(x, HEAD + TABLES + "control { apply t; } emit x;");
        x.read();
        x.lay(12, 10000, 10000);
        x.entry(0, 0, 0, 0);
        Works.send(x, 0, 9);
        Works.send(x, 0, 0);
        x.run(20);
        Works.due("the entry came, with the mask of before", x.out(0, 1), 0);
        Works.due("it has the value and the datum of before", x.out(1, 2), 321);
        Works.due("and matches nothing else", x.out(2, 1), 1);
    }

    private static void readThatAnswers() {
        Works.sentence("4: Nothing is LAID, arrays, tables, line and cycles are as at first");
        PacketWorks x = laid();
        x.key(0, 1, -1);
        x.entry(0, 0, 0, 0);
        Works.send(x, 0, 5);
        x.run(20);
        Works.due("a word", x.word(0, 2), 5);
        Works.due("an entry", x.entries(0, 0), 1);
        Works.send(x, 0, 6);
        Works.send(x, 0, 7);
        x.run(1);
        Works.put(x, WHOLE);
        Works.due("the same text has as many nodes", x.read(), 10);
        Works.due("the tape is empty", x.end(0), 0);
        for (int what = 0; what <= 5; what++) {
            Works.due("count(" + what + ")", x.count(what), 0);
        }
        Works.due("out(0, 0)", x.out(0, 0), -1);
        Works.due("did(1, 0)", x.did(1, 0), -1);
        Works.due("byteAt(1, 0)", x.byteAt(1, 0), -1);
        Works.due("step(0, 1)", x.step(0, 1), -1);
        Works.due("stage(0, 0)", x.stage(0, 0), -1);
        Works.due("word(0, 2)", x.word(0, 2), 0);
        Works.due("entries(0, 0)", x.entries(0, 0), 0);
        x.lay(12, 10000, 10000);
        Works.due("word(0, 2) behind lay()", x.word(0, 2), 0);
        Works.due("word(1, 63) behind lay()", x.word(1, 63), 0);
        Works.due("entries(0, 0) behind lay()", x.entries(0, 0), 0);
        Works.due("entries(0, 1) behind lay()", x.entries(0, 1), 0);
        Works.due("nothing goes OUT", x.run(20), 0);
        Works.due("the next number", x.packet(0), 0);
    }

    private static void whatStaysBehindRead() {
        Works.sentence("12, 13: They stay; 0 at first");
        PacketWorks x = Works.laid(HEAD + "table t { key x.a : prefix; actions put; default other (); room 2; }"
                + " control { apply t; } emit x;");
        int n = x.entry(0, 0, 0, 0);
        Works.send(x, 0, 200);
        x.run(3);
        Works.due("value, mask and datum are 0 at first", x.out(n, 1), 0);
        Works.due("it matches all", x.out(n + 1, 2), 0);
        Works.due("one entry", x.entries(0, 0), 1);
    }

    private static void faults() {
        Works.sentence("5: the FAULT, 0 without, its place, NONE without. NONE for another what");
        PacketWorks x = new PacketWorks();
        for (int round = 0; round < 3; round++) {
            for (int what : WILD) {
                Works.due("fault(" + what + ")", x.fault(what), -1);
            }
            Works.due("fault(2)", x.fault(2), -1);
            Works.due("fault(-1)", x.fault(-1), -1);
            Works.due("fault(0)", x.fault(0), round == 1 ? 3 : 0);
            Works.due("fault(1)", x.fault(1), round == 1 ? 5 : -1);
            if (round == 0) {
                Works.put(x, "meta length : 8;");
                Works.dueThrow("read()", IllegalArgumentException.class, x::read);
            } else {
                Works.put(x, WHOLE);
                x.read();
            }
        }
        x.lay(12, 10000, 10000);
        x.packet(0);
        x.run(9);
        Works.due("fault(0) behind other calls", x.fault(0), 0);
    }

    private static void sizesAtTheMost() {
        Works.sentence("6: Of the program: each at its most");
        PacketWorks x = Works.with(Works.times(12, "header h# {" + fields() + "}") + Works.times(12, "use x#:h#;")
                + Works.times(13, "meta m#:1;") + Works.times(8, "array r#:1[1];") + Works.times(16, "state s#{goto accept;}")
                + Works.times(16, "action a#(){}")
                + Works.times(8, "table t#{key 1:exact;actions a0;default a0();room 1 ways 1 stash 0;}")
                + "control{" + Works.times(48, "drop;") + "}emit x0;");
        int[] want = {12, 12, 16, 8, 16, 16, 8, 48, 12 * 512};
        for (int what = 0; what < want.length; what++) {
            Works.due("size(" + what + ")", x.size(what), want[what]);
        }
        Works.sentence("6: and at its least");
        PacketWorks y = Works.with("header h{a:8;}use x:h;control{}emit x;");
        int[] least = {1, 1, 3, 0, 0, 0, 0, 0, 8};
        for (int what = 0; what < least.length; what++) {
            Works.due("size(" + what + ")", y.size(what), least[what]);
        }
        Works.sentence("6: bits of all instances, each for itself");
        PacketWorks z = Works.with("header h{a:8;}header g{a:64;}header k{a:16;}use x:h;use y:h;use w:k;control{}emit x;");
        Works.due("size(8)", z.size(8), 8 + 8 + 16);
        Works.sentence("6: NONE for another what");
        for (int what : WILD) {
            Works.due("size(" + what + ")", y.size(what), -1);
        }
        Works.due("size(9)", y.size(9), -1);
        Works.due("size(-1)", y.size(-1), -1);
    }

    private static String fields() {
        return "a:64;b:64;c:64;d:64;e:64;f:64;g:64;h:64;";
    }

    private static void sizesWithoutAProgram() {
        Works.sentence("6: NONE without a program");
        PacketWorks x = laid();
        Works.due("with one", x.size(0), 1);
        Works.put(x, "header h { a : 8; } use x : h; meta n : 8; control { drop; }");
        Works.dueThrow("read()", IllegalArgumentException.class, x::read);
        for (int what = -1; what <= 9; what++) {
            Works.due("size(" + what + ")", x.size(what), -1);
        }
    }

    private static void whatLayRefuses() {
        Works.sentence("7: IllegalArgumentException: stages are not 1 .. 12, memory or wires below 0");
        PacketWorks x = Works.with(WHOLE);
        for (int stages : new int[] {0, 13, -1, Integer.MIN_VALUE, Integer.MAX_VALUE}) {
            Works.dueThrow("lay(" + stages + ")", IllegalArgumentException.class, () -> x.lay(stages, 1000, 1000));
        }
        for (int below : new int[] {-1, Integer.MIN_VALUE}) {
            Works.dueThrow("memory " + below, IllegalArgumentException.class, () -> x.lay(12, below, 1000));
            Works.dueThrow("wires " + below, IllegalArgumentException.class, () -> x.lay(12, 1000, below));
        }
        Works.due("nothing is LAID", x.count(5), 0);
        Works.due("the most of all", x.lay(12, Integer.MAX_VALUE, Integer.MAX_VALUE), 3);
        PacketWorks y = Works.with("header h { a : 8; } use x : h; control { } emit x;");
        Works.due("the least of all", y.lay(1, 0, 0), 1);
    }

    private static void theOrderInLay() {
        Works.sentence("7: Of several exceptions that apply the first one listed is thrown");
        PacketWorks none = new PacketWorks();
        Works.dueThrow("no program, no such stages", IllegalStateException.class, () -> none.lay(0, -1, -1));
        PacketWorks x = Works.with(WHOLE);
        Works.dueThrow("no such stages, no stage", IllegalArgumentException.class, () -> x.lay(0, 0, 0));
        Works.dueThrow("no such wires, no stage", IllegalArgumentException.class, () -> x.lay(1, 0, -1));
        Works.dueThrow("no stage", IndexOutOfBoundsException.class, () -> x.lay(1, 0, 0));
        x.lay(12, 10000, 10000);
        Works.dueThrow("it is LAID, no such stages", IllegalStateException.class, () -> x.lay(13, 0, 0));
        Works.dueThrow("it is LAID", IllegalStateException.class, () -> x.lay(12, 10000, 10000));
        Works.due("it is as it was", x.count(5), 3);
        PacketWorks one = Works.laid("header h { a : 8; } use x : h; control { } emit x;");
        Works.dueThrow("one stage is LAID", IllegalStateException.class, () -> one.lay(1, 0, 0));
    }

    private static void homelessSince() {
        Works.sentence("8: in the latest lay() that was not refused otherwise, since read(); NONE without");
        PacketWorks x = new PacketWorks();
        Works.due("a new object", x.homeless(), -1);
        Works.put(x, WHOLE);
        x.read();
        Works.due("ahead of lay()", x.homeless(), -1);
        Works.dueThrow("lay()", IllegalArgumentException.class, () -> x.lay(0, 0, 0));
        Works.due("refused otherwise", x.homeless(), -1);
        Works.dueThrow("lay()", IndexOutOfBoundsException.class, () -> x.lay(1, 0, 0));
        Works.due("the first step in a block", x.homeless(), 1);
        Works.dueThrow("lay()", IllegalArgumentException.class, () -> x.lay(1, -1, 0));
        Works.due("refused otherwise", x.homeless(), 1);
        Works.dueThrow("lay()", IndexOutOfBoundsException.class, () -> x.lay(12, 10000, 7));
        Works.due("the first apply", x.homeless(), 1);
        x.lay(12, 10000, 8);
        Works.due("behind one that answers", x.homeless(), -1);
        Works.dueThrow("lay()", IllegalStateException.class, () -> x.lay(1, 0, 0));
        Works.due("refused otherwise", x.homeless(), -1);
        Works.put(x, WHOLE);
        x.read();
        Works.dueThrow("lay()", IndexOutOfBoundsException.class, () -> x.lay(1, 0, 0));
        Works.put(x, WHOLE);
        x.read();
        Works.due("since read()", x.homeless(), -1);
    }

    private static void stepsThatAreNot() {
        Works.sentence("9: NONE if there is none such, or for another what");
        PacketWorks x = laid();
        for (int what = 0; what <= 2; what++) {
            Works.due("step(" + STEPS + ", " + what + ")", x.step(STEPS, what), -1);
            Works.due("step(-1, " + what + ")", x.step(-1, what), -1);
            Works.due("step(48, " + what + ")", x.step(48, what), -1);
            for (int step : WILD) {
                Works.due("step(" + step + ", " + what + ")", x.step(step, what), -1);
            }
        }
        for (int step = 0; step < STEPS; step++) {
            Works.due("step(" + step + ", 3)", x.step(step, 3), -1);
            Works.due("step(" + step + ", -1)", x.step(step, -1), -1);
            for (int what : WILD) {
                Works.due("step(" + step + ", " + what + ")", x.step(step, what), -1);
            }
        }
        Works.sentence("9: 0 a statement, 1 an if, 2 an apply; its stage; the table that it applies, NONE else");
        int[][] want = {{1, 0, -1}, {2, 1, 0}, {0, 1, -1}, {0, 0, -1}, {2, 2, 1}};
        for (int step = 0; step < STEPS; step++) {
            for (int what = 0; what <= 2; what++) {
                Works.due("step(" + step + ", " + what + ")", x.step(step, what), want[step][what]);
            }
        }
        PacketWorks y = Works.with(WHOLE);
        for (int step = 0; step < STEPS; step++) {
            Works.due("not LAID: step(" + step + ", 0)", y.step(step, 0), want[step][0]);
            Works.due("not LAID: step(" + step + ", 1)", y.step(step, 1), -1);
            Works.due("not LAID: step(" + step + ", 2)", y.step(step, 2), want[step][2]);
        }
    }

    private static void stagesThatAreNot() {
        Works.sentence("10: NONE if it is not LAID, there is none such, or for another what");
        PacketWorks none = Works.with(WHOLE);
        for (int what = 0; what <= 2; what++) {
            Works.due("not LAID", none.stage(0, what), -1);
            Works.due("no program", new PacketWorks().stage(0, what), -1);
        }
        PacketWorks x = laid();
        for (int what = 0; what <= 2; what++) {
            Works.due("stage(-1, " + what + ")", x.stage(-1, what), -1);
            Works.due("stage(3, " + what + ")", x.stage(3, what), -1);
            Works.due("stage(12, " + what + ")", x.stage(12, what), -1);
            for (int stage : WILD) {
                Works.due("stage(" + stage + ", " + what + ")", x.stage(stage, what), -1);
            }
        }
        for (int stage = 0; stage < 3; stage++) {
            Works.due("stage(" + stage + ", 3)", x.stage(stage, 3), -1);
            Works.due("stage(" + stage + ", -1)", x.stage(stage, -1), -1);
            for (int what : WILD) {
                Works.due("stage(" + stage + ", " + what + ")", x.stage(stage, what), -1);
            }
        }
    }

    private static void theOrderInPacket() {
        Works.sentence("11: IllegalStateException ahead of IllegalArgumentException (the tape stays with both)");
        PacketWorks x = Works.with(WHOLE);
        Works.put(x, new byte[129]);
        Works.dueThrow("not LAID, 129 bytes", IllegalStateException.class, () -> x.packet(0));
        Works.due("the tape", x.end(0), 129);
        x.lay(12, 10000, 10000);
        Works.dueThrow("129 bytes", IllegalArgumentException.class, () -> x.packet(0));
        Works.due("the tape", x.end(0), 129);
        Works.due("no number is taken", x.count(0), 0);
        PacketWorks y = laid();
        for (int i = 0; i < 40; i++) {
            y.packet(0);
        }
        Works.put(y, new byte[129]);
        Works.dueThrow("40 in line, 129 bytes", IllegalStateException.class, () -> y.packet(0));
        Works.due("the tape", y.end(0), 129);
        y.run(1);
        Works.dueThrow("129 bytes", IllegalArgumentException.class, () -> y.packet(0));
        Works.due("the tape", y.end(0), 129);
    }

    private static void bytesOfAPacket() {
        Works.sentence("11: it has more than 128 bytes");
        for (int length : new int[] {0, 1, 127, 128}) {
            PacketWorks x = laid();
            Works.put(x, new byte[length]);
            Works.due("packet of " + length, x.packet(0), 0);
            Works.due("the tape, which is empty then", x.end(0), 0);
        }
        for (int length : new int[] {129, 256, 3000}) {
            PacketWorks x = laid();
            Works.put(x, new byte[length]);
            Works.dueThrow("packet of " + length, IllegalArgumentException.class, () -> x.packet(0));
            Works.due("the tape stays", x.end(0), length);
        }
    }

    private static void keysAndData() {
        Works.sentence("12: IndexOutOfBoundsException: another i");
        PacketWorks x = laid();
        for (int i : WILD) {
            Works.dueThrow("key(" + i + ")", IndexOutOfBoundsException.class, () -> x.key(i, 1, 1));
            Works.dueThrow("datum(" + i + ")", IndexOutOfBoundsException.class, () -> x.datum(i, 1));
        }
        for (int i : new int[] {-1, 4, 5}) {
            Works.dueThrow("key(" + i + ")", IndexOutOfBoundsException.class, () -> x.key(i, 1, 1));
            Works.dueThrow("datum(" + i + ")", IndexOutOfBoundsException.class, () -> x.datum(i, 1));
        }
        PacketWorks none = new PacketWorks();
        for (int i = 0; i < 4; i++) {
            none.key(i, Long.MIN_VALUE, -1);
            none.datum(i, Long.MAX_VALUE);
        }
        Works.dueThrow("key(4)", IndexOutOfBoundsException.class, () -> none.key(4, 0, 0));
        Works.sentence("12, 13: each of 0 .. 3 for itself");
        PacketWorks y = Works.laid("header h { a : 8; b : 8; c : 8; d : 8; } use x : h; state s { extract x; goto accept; }"
                + " action f (p : 8, q : 8, r : 8, s : 8) { x.a = p; x.b = q; x.c = r; x.d = s; } action g () { drop; }"
                + " table t { key x.a : exact; key x.b : exact; key x.c : exact; key x.d : exact; actions f; default g ();"
                + " room 1 ways 4 stash 0; } control { apply t; } emit x;");
        for (int i = 0; i < 4; i++) {
            y.key(i, 10 + i, -1);
            y.datum(i, 20 + i);
        }
        y.entry(0, 0, 0, 0);
        y.key(2, 99, -1);
        y.datum(3, 77);
        y.entry(0, 0, 0, 0);
        Works.send(y, 0, 10, 11, 12, 13);
        Works.send(y, 0, 10, 11, 99, 13);
        Works.send(y, 0, 10, 11, 13, 12);
        y.run(9);
        Works.dueBytes("the first entry", y, 2, "14151617");
        Works.dueBytes("the others stay", y, 3, "1415164d");
        Works.due("no entry", y.out(4, 1), 1);
    }

    private static void theOrderInEntry() {
        Works.sentence("14: IndexOutOfBoundsException: no such kind or table, ahead of IllegalStateException");
        PacketWorks none = new PacketWorks();
        Works.dueThrow("no program: no such table", IndexOutOfBoundsException.class, () -> none.entry(0, 0, 0, 0));
        PacketWorks x = Works.with(WHOLE);
        for (int pass = 0; pass < 3; pass++) {
            for (int wild : WILD) {
                Works.dueThrow("kind " + wild, IndexOutOfBoundsException.class, () -> x.entry(wild, 0, 0, 0));
                Works.dueThrow("table " + wild, IndexOutOfBoundsException.class, () -> x.entry(0, wild, 0, 0));
            }
            Works.dueThrow("kind 3", IndexOutOfBoundsException.class, () -> x.entry(3, 0, 0, 0));
            Works.dueThrow("kind -1", IndexOutOfBoundsException.class, () -> x.entry(-1, 0, 0, 0));
            Works.dueThrow("table 2", IndexOutOfBoundsException.class, () -> x.entry(0, 2, 0, 0));
            Works.dueThrow("table -1", IndexOutOfBoundsException.class, () -> x.entry(0, -1, 0, 0));
            Works.dueThrow("table 7", IndexOutOfBoundsException.class, () -> x.entry(2, 7, 0, 0));
            if (pass == 0) {
                Works.dueThrow("not LAID", IllegalStateException.class, () -> x.entry(0, 0, 0, 0));
                x.lay(12, 10000, 10000);
            } else if (pass == 1) {
                Works.due("no number is taken", x.count(0), 0);
                for (int i = 0; i < 40; i++) {
                    Works.due("entry()", x.entry(i % 3, i % 2, i, i), i);
                }
                Works.dueThrow("40 in line", IllegalStateException.class, () -> x.entry(0, 0, 0, 0));
            }
        }
        PacketWorks without = Works.laid("header h { a : 8; } use x : h; control { } emit x;");
        Works.dueThrow("a program without a table", IndexOutOfBoundsException.class, () -> without.entry(0, 0, 0, 0));
    }

    private static void theOrderInRun() {
        Works.sentence("15: IllegalStateException: it is not LAID, ahead of IllegalArgumentException");
        PacketWorks x = Works.with(WHOLE);
        for (int n : new int[] {-1, 0, 1, 100, 101}) {
            Works.dueThrow("run(" + n + ") of none", IllegalStateException.class, () -> new PacketWorks().run(n));
            Works.dueThrow("run(" + n + ") not LAID", IllegalStateException.class, () -> x.run(n));
        }
    }

    private static PacketWorks someOut() {
        PacketWorks x = laid();
        x.key(0, 1, -1);
        x.datum(0, 65535);
        x.entry(0, 0, 0, 0);
        x.entry(1, 0, 0, 0);
        x.entry(0, 0, 0, 0);
        x.entry(2, 0, 0, 0);
        Works.send(x, 0, 1, 2, 3);
        Works.send(x, 0, 255, 254);
        Works.send(x, 0);
        x.run(9);
        Works.send(x, 0, 7);
        x.run(1);
        return x;
    }

    private static void outs() {
        Works.sentence("16: kinds, outcomes, out_port, bytes, cycles; else NONE");
        PacketWorks x = someOut();
        int[][] want = {{1, 0, -1, -1, 3}, {2, 0, -1, -1, 4}, {1, 1, -1, -1, 5}, {3, 0, -1, -1, 6}, {0, 1, -1, -1, 7},
            {0, 0, 7, 2, 8}, {0, 2, -1, -1, 9}, {-1, -1, -1, -1, -1}, {-1, -1, -1, -1, -1}};
        for (int n = 0; n < want.length; n++) {
            for (int what = 0; what <= 4; what++) {
                Works.due("out(" + n + ", " + what + ")", x.out(n, what), want[n][what]);
            }
            Works.due("out(" + n + ", 5)", x.out(n, 5), -1);
            Works.due("out(" + n + ", -1)", x.out(n, -1), -1);
        }
        Works.sentence("16: NONE if there is none such, or for another what");
        for (int wild : WILD) {
            Works.due("out(0, " + wild + ")", x.out(0, wild), -1);
            Works.due("out(" + wild + ", 0)", x.out(wild, 0), -1);
        }
        Works.due("out(-1, 0)", x.out(-1, 0), -1);
        Works.due("no program", new PacketWorks().out(0, 0), -1);
        Works.due("not LAID", Works.with(WHOLE).out(0, 0), -1);
    }

    private static void bytes() {
        Works.sentence("17: Byte i of such a packet (the answer is 0 .. 255); NONE if there is none");
        PacketWorks x = someOut();
        Works.due("byteAt(5, 0)", x.byteAt(5, 0), 255);
        Works.due("byteAt(5, 1)", x.byteAt(5, 1), 254);
        Works.due("behind the last", x.byteAt(5, 2), -1);
        Works.due("ahead of the first", x.byteAt(5, -1), -1);
        for (int wild : WILD) {
            Works.due("byteAt(5, " + wild + ")", x.byteAt(5, wild), -1);
            Works.due("byteAt(" + wild + ", 0)", x.byteAt(wild, 0), -1);
        }
        Works.due("an entry", x.byteAt(0, 0), -1);
        Works.due("one DROPPED", x.byteAt(4, 0), -1);
        Works.due("one REJECTed", x.byteAt(6, 0), -1);
        Works.due("one in a stage", x.byteAt(7, 0), -1);
        Works.due("none such", x.byteAt(8, 0), -1);
        Works.due("no program", new PacketWorks().byteAt(0, 0), -1);
        PacketWorks y = Works.laid("header h { a : 8; } use x : h; control { } emit x;");
        int[] all = new int[128];
        for (int i = 0; i < 128; i++) {
            all[i] = 2 * i + i / 64;
        }
        Works.send(y, 0, all);
        y.run(2);
        for (int i = 0; i < 128; i++) {
            Works.due("byteAt(0, " + i + ")", y.byteAt(0, i), all[i]);
        }
        Works.due("byteAt(0, 128)", y.byteAt(0, 128), -1);
    }

    private static void whatStepsDid() {
        Works.sentence("18: NONE if it was not come to; 0 or 1 of an if; the action's number of an apply; 0 of a statement");
        PacketWorks x = someOut();
        int[][] want = {{-1, -1, -1, -1, -1}, {1, 1, -1, 0, 0}, {0, -1, 0, 0, 0}, {-1, -1, -1, -1, -1}};
        int[] numbers = {0, 4, 5, 6};
        for (int k = 0; k < numbers.length; k++) {
            for (int step = 0; step < STEPS; step++) {
                Works.due("did(" + numbers[k] + ", " + step + ")", x.did(numbers[k], step), want[k][step]);
            }
            Works.due("did(" + numbers[k] + ", " + STEPS + ")", x.did(numbers[k], STEPS), -1);
            Works.due("did(" + numbers[k] + ", -1)", x.did(numbers[k], -1), -1);
        }
        Works.sentence("18: NONE if there is none such");
        for (int wild : WILD) {
            Works.due("did(5, " + wild + ")", x.did(5, wild), -1);
            Works.due("did(" + wild + ", 0)", x.did(wild, 0), -1);
        }
        Works.due("did(5, 47)", x.did(5, 47), -1);
        Works.due("did(5, 48)", x.did(5, 48), -1);
        Works.due("one in a stage", x.did(7, 0), -1);
        Works.due("none such", x.did(8, 0), -1);
        Works.due("no program", new PacketWorks().did(0, 0), -1);
    }

    private static void words() {
        Works.sentence("19: 0 for none such, 0 ahead of lay()");
        PacketWorks x = Works.with(WHOLE);
        Works.due("ahead of lay()", x.word(0, 0), 0);
        Works.due("no program", new PacketWorks().word(0, 0), 0);
        x.lay(12, 10000, 10000);
        Works.send(x, 0, 200);
        Works.due("in line is in no stage", x.word(0, 2), 0);
        x.run(9);
        Works.due("word(0, 2)", x.word(0, 2), 200);
        Works.due("word(1, 63), 64 bits", x.word(1, 63), Long.MIN_VALUE);
        Works.due("word(0, 3): behind its size", x.word(0, 3), 0);
        Works.due("word(0, -1)", x.word(0, -1), 0);
        Works.due("word(1, 64)", x.word(1, 64), 0);
        Works.due("word(1, -1)", x.word(1, -1), 0);
        Works.due("word(0, 64 + 63)", x.word(0, 127), 0);
        Works.due("word(2, 0)", x.word(2, 0), 0);
        Works.due("word(2, -1)", x.word(2, -1), 0);
        Works.due("word(-1, 66)", x.word(-1, 66), 0);
        for (int wild : WILD) {
            Works.due("word(0, " + wild + ")", x.word(0, wild), 0);
            Works.due("word(" + wild + ", 0)", x.word(wild, 0), 0);
        }
        Works.sentence("19: IllegalStateException: an operation is in a stage (this first)");
        Works.send(x, 0, 200);
        x.run(1);
        Works.dueThrow("word(0, 2)", IllegalStateException.class, () -> x.word(0, 2));
        Works.dueThrow("word(-1, 0)", IllegalStateException.class, () -> x.word(-1, 0));
        Works.dueThrow("word(0, 99)", IllegalStateException.class, () -> x.word(0, 99));
        x.run(2);
        Works.dueThrow("in the last stage", IllegalStateException.class, () -> x.word(0, 2));
        x.run(1);
        Works.due("OUT", x.word(0, 2), 200);
        x.entry(0, 0, 0, 0);
        x.run(1);
        Works.dueThrow("an entry, too", IllegalStateException.class, () -> x.word(0, 2));
        Works.put(x, WHOLE);
        x.read();
        Works.due("read() makes the stages empty", x.word(0, 2), 0);
    }

    private static void entries() {
        Works.sentence("20: NONE for none such, or another what");
        PacketWorks x = Works.with(WHOLE);
        Works.due("no program", new PacketWorks().entries(0, 0), -1);
        x.lay(12, 10000, 10000);
        for (int table = 0; table < 2; table++) {
            Works.due("entries(" + table + ", 0)", x.entries(table, 0), 0);
            Works.due("entries(" + table + ", 1)", x.entries(table, 1), 0);
            Works.due("entries(" + table + ", 2)", x.entries(table, 2), -1);
            Works.due("entries(" + table + ", -1)", x.entries(table, -1), -1);
            for (int wild : WILD) {
                Works.due("entries(" + table + ", " + wild + ")", x.entries(table, wild), -1);
                Works.due("entries(" + wild + ", " + table + ")", x.entries(wild, table), -1);
            }
        }
        Works.due("entries(2, 0)", x.entries(2, 0), -1);
        Works.due("entries(-1, 0)", x.entries(-1, 0), -1);
        Works.due("entries(8, 0)", x.entries(8, 0), -1);
        Works.sentence("20: IllegalStateException: an operation is in a stage (this first)");
        x.key(0, 1, -1);
        x.entry(0, 0, 0, 0);
        Works.due("in line is in no stage", x.entries(0, 0), 0);
        x.run(1);
        Works.dueThrow("entries(0, 0)", IllegalStateException.class, () -> x.entries(0, 0));
        Works.dueThrow("entries(2, 0)", IllegalStateException.class, () -> x.entries(2, 0));
        Works.dueThrow("entries(0, 2)", IllegalStateException.class, () -> x.entries(0, 2));
        x.run(3);
        Works.due("OUT", x.entries(0, 0), 1);
        Works.due("the other table", x.entries(1, 0), 0);
    }

    private static void counts() {
        Works.sentence("21: stages (5; 0 if it is not LAID). NONE for another what");
        PacketWorks x = new PacketWorks();
        for (int round = 0; round < 3; round++) {
            for (int what = 0; what <= 5; what++) {
                Works.due("count(" + what + ")", x.count(what), what == 5 && round == 2 ? 3 : 0);
            }
            Works.due("count(6)", x.count(6), -1);
            Works.due("count(-1)", x.count(-1), -1);
            for (int wild : WILD) {
                Works.due("count(" + wild + ")", x.count(wild), -1);
            }
            if (round == 0) {
                Works.put(x, WHOLE);
                x.read();
            } else if (round == 1) {
                x.lay(12, 10000, 10000);
            }
        }
        Works.dueThrow("read()", IllegalArgumentException.class, x::read);
        Works.due("count(5) without a program", x.count(5), 0);
    }

    private static void behindTheMost() {
        Works.sentence("9, 10, 18 to 20: NONE or 0 behind the last of as many as there may be");
        PacketWorks x = Works.with("header h{a:8;}use x:h;meta m:8;" + Works.times(8, "array r#:8[64];") + "action a(){}"
                + Works.times(8, "table t#{key m:exact;actions a;default a();room 1 ways 1 stash 0;}")
                + "control{" + Works.times(11, "m=m+1;") + "store r7[63]m;store r0[0]1;" + Works.times(35, "if 1{}")
                + "}emit x;");
        Works.due("lay()", x.lay(12, 0, 0), 12);
        Works.due("step(47, 0)", x.step(47, 0), 1);
        Works.due("step(48, 0)", x.step(48, 0), -1);
        Works.due("step(48, 1)", x.step(48, 1), -1);
        Works.due("stage(11, 0)", x.stage(11, 0) > 0 ? 1 : 0, 1);
        Works.due("stage(12, 0)", x.stage(12, 0), -1);
        x.packet(0);
        x.run(20);
        Works.due("did(0, 47)", x.did(0, 47), 1);
        Works.due("did(0, 48)", x.did(0, 48), -1);
        Works.due("word(7, 63)", x.word(7, 63), 11);
        Works.due("word(7, 64)", x.word(7, 64), 0);
        Works.due("word(8, 0)", x.word(8, 0), 0);
        Works.due("word(6, 64)", x.word(6, 64), 0);
        Works.due("word(-1, 64)", x.word(-1, 64), 0);
        Works.due("entries(7, 0)", x.entries(7, 0), 0);
        Works.due("entries(8, 0)", x.entries(8, 0), -1);
        Works.dueThrow("entry() of the ninth table", IndexOutOfBoundsException.class, () -> x.entry(0, 8, 0, 0));
        Works.due("entry() of the eighth", x.entry(0, 7, 0, 0), 1);
    }
}
