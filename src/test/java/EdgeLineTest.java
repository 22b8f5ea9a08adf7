/** Boundary cases of the term THE LINE, with promises 11 and 14 to 18: a full line, an empty one, the cycles. */
public final class EdgeLineTest {
    private static final String HEAD = "header h { a : 8; } use x : h; meta m : 8; array r : 16 [4]; "
            + "state s { extract x; goto accept; } action put (p : 16) { out_port = p; } action other () { out_port = 999; } ";
    private static final String TABLE = "table t { key x.a : exact; actions put; default other (); room 4 ways 2 stash 0; } ";
    private static final String PLAIN = HEAD + "control { } emit x;";

    public static void main(String[] args) {
        aFullLineOfPackets();
        aFullLineOfBoth();
        anEmptyLine();
        numbersFromNought();
        cyclesOfEachDepth();
        oneBehindTheOther();
        aGapBetween();
        stepsInTheirCycle();
        entriesInTheirTurn();
        entriesAtALaterStage();
        tablesWithoutApply();
        cyclesThatRunTakes();
        theLatest64();
        linesThatAreFullAgain();
        rowsAreUsedAgain();
        Works.done();
    }

    private static void aFullLineOfPackets() {
        Works.sentence("LINE: at most 40 that have not come in");
        PacketWorks x = Works.laid(PLAIN);
        for (int i = 0; i < 40; i++) {
            Works.due("packet()", x.packet(0), i);
        }
        Works.due("in line", x.count(1), 40);
        Works.sentence("11: IllegalStateException: 40 are in line (the tape stays, as with the first)");
        x.feed(0x01020304, 0, 0, 0, 0);
        x.end(3);
        Works.dueThrow("the 41st", IllegalStateException.class, () -> x.packet(0));
        Works.due("the tape stays", x.end(0), 3);
        Works.due("none came", x.count(0), 40);
        Works.due("none came", x.count(1), 40);
        x.run(1);
        Works.due("one has come in", x.count(1), 39);
        Works.due("one more", x.packet(0), 40);
        Works.due("the tape is empty", x.end(0), 0);
        Works.dueThrow("and no more", IllegalStateException.class, () -> x.packet(0));
        Works.due("run(100)", x.run(100), 41);
        Works.dueBytes("what the tape had", x, 40, "010203");
    }

    private static void aFullLineOfBoth() {
        Works.sentence("14: IllegalStateException: 40 are in line");
        PacketWorks x = Works.laid(HEAD + TABLE + "control { apply t; } emit x;");
        x.key(0, 1, -1);
        for (int i = 0; i < 40; i++) {
            Works.due("number", i % 2 == 0 ? x.entry(i % 3, 0, 0, 0) : x.packet(0), i);
        }
        Works.dueThrow("entry()", IllegalStateException.class, () -> x.entry(0, 0, 0, 0));
        Works.dueThrow("packet()", IllegalStateException.class, () -> x.packet(0));
        Works.due("count(0)", x.count(0), 40);
        x.run(1);
        Works.due("entry()", x.entry(0, 0, 0, 0), 40);
        Works.dueThrow("entry()", IllegalStateException.class, () -> x.entry(0, 0, 0, 0));
        x.run(1);
        Works.due("packet()", x.packet(0), 41);
        Works.due("those in stages do not count", x.count(1) + 10 * x.count(2), 50);
    }

    private static void anEmptyLine() {
        Works.sentence("LINE: A CYCLE with an empty line and empty stages");
        PacketWorks x = Works.laid(PLAIN);
        Works.due("run(0)", x.run(0), 0);
        Works.due("cycles", x.count(4), 0);
        Works.due("run(1)", x.run(1), 0);
        Works.due("run(100)", x.run(100), 0);
        Works.due("cycles", x.count(4), 101);
        Works.due("OUT", x.count(3), 0);
        Works.due("out(0, 0)", x.out(0, 0), -1);
        x.packet(0);
        Works.due("run(1)", x.run(1), 0);
        Works.due("run(1)", x.run(1), 1);
        Works.due("the cycle in which it was OUT", x.out(0, 4), 102);
    }

    private static void numbersFromNought() {
        Works.sentence("LINE: operations, numbered from 0 on");
        PacketWorks x = Works.laid(HEAD + TABLE + "control { apply t; } emit x;");
        Works.due("packet()", x.packet(0), 0);
        Works.due("entry()", x.entry(0, 0, 0, 0), 1);
        x.run(5);
        Works.due("entry()", x.entry(2, 0, 0, 0), 2);
        Works.due("packet()", x.packet(0), 3);
        Works.put(x, PLAIN);
        x.read();
        x.lay(1, 0, 0);
        Works.due("from 0 on behind read()", x.packet(0), 0);
    }

    private static void cyclesOfEachDepth() {
        Works.sentence("LINE: A CYCLE: what is in the last stage (of those that lay() answered) is OUT; all else goes one stage on");
        for (int deep = 1; deep <= 12; deep++) {
            PacketWorks x = Works.with(HEAD + "control { " + Works.times(deep, "m = m + 1; ") + "} emit x;");
            Works.due("lay(12)", x.lay(12, 0, 0), deep);
            Works.send(x, 0, 5);
            for (int cycle = 0; cycle < deep; cycle++) {
                Works.due("run(1) of " + cycle, x.run(1), 0);
                Works.due("in stages", x.count(2), 1);
                Works.due("not OUT", x.out(0, 0), -1);
            }
            Works.due("run(1) behind the last stage of " + deep, x.run(1), 1);
            Works.due("in stages", x.count(2), 0);
            Works.due("the cycle in which it was OUT, the first one 0", x.out(0, 4), deep);
        }
    }

    private static void oneBehindTheOther() {
        Works.sentence("LINE: the first of the line comes to stage 0, one each cycle");
        PacketWorks x = Works.with(HEAD + "control { m = 1; m = 2; m = 3; } emit x;");
        x.lay(12, 0, 0);
        for (int i = 0; i < 6; i++) {
            Works.send(x, 0, i);
        }
        int[] line = {5, 4, 3, 2, 1, 0, 0, 0, 0};
        int[] stages = {1, 2, 3, 3, 3, 3, 2, 1, 0};
        for (int cycle = 0; cycle < 9; cycle++) {
            Works.due("run(1)", x.run(1), cycle >= 3 ? 1 : 0);
            Works.due("in line behind cycle " + cycle, x.count(1), line[cycle]);
            Works.due("in stages behind cycle " + cycle, x.count(2), stages[cycle]);
            Works.due("OUT behind cycle " + cycle, x.count(3), Math.max(0, cycle - 2));
            Works.due("came", x.count(0), 6);
            Works.due("cycles", x.count(4), cycle + 1);
        }
        for (int i = 0; i < 6; i++) {
            Works.due("the cycle in which " + i + " was OUT", x.out(i, 4), i + 3);
            Works.due("its byte", x.byteAt(i, 0), i);
        }
    }

    private static void aGapBetween() {
        Works.sentence("LINE: stages may be empty between two operations");
        PacketWorks x = Works.with(HEAD + "control { m = 1; m = 2; m = 3; } emit x;");
        x.lay(12, 0, 0);
        Works.send(x, 0, 1);
        x.run(2);
        Works.send(x, 0, 2);
        Works.due("run(1)", x.run(1), 0);
        Works.due("in stages", x.count(2), 2);
        Works.due("run(1)", x.run(1), 1);
        Works.due("run(1)", x.run(1), 0);
        Works.due("run(1)", x.run(1), 1);
        Works.due("out(0, 4)", x.out(0, 4), 3);
        Works.due("out(1, 4)", x.out(1, 4), 5);
    }

    private static void stepsInTheirCycle() {
        Works.sentence("LINE: All that a step does is done in its stage, in the cycle in which the operation comes there");
        PacketWorks x = Works.laid(HEAD + "array k : 8 [1]; control { load x.a k [0]; store k [0] 1; m = x.a;"
                + " store r [0] m as 16; load out_port r [1]; } emit x;");
        Works.due("lay() answered", x.count(5), 3);
        Works.send(x, 0, 9);
        Works.send(x, 0, 9);
        x.run(1);
        Works.dueThrow("it is in a stage", IllegalStateException.class, () -> x.word(0, 0));
        x.run(10);
        Works.dueBytes("nothing was stored ahead of it", x, 0, "00");
        Works.dueBytes("what the one ahead stored", x, 1, "01");
        Works.due("what the second one stored last", x.word(0, 0), 1);
    }

    private static void entriesInTheirTurn() {
        Works.sentence("LINE: Entries come, change and go in their table's stage");
        PacketWorks x = Works.laid(HEAD + TABLE + "control { apply t; } emit x;");
        x.key(0, 5, -1);
        x.datum(0, 10);
        Works.send(x, 0, 5);
        x.entry(0, 0, 0, 0);
        Works.send(x, 0, 5);
        x.datum(0, 20);
        x.entry(1, 0, 0, 0);
        Works.send(x, 0, 5);
        x.entry(2, 0, 0, 0);
        Works.send(x, 0, 5);
        x.run(10);
        int[] want = {999, -1, 10, -1, 20, -1, 999};
        for (int i = 0; i < want.length; i++) {
            Works.due("out(" + i + ", 2)", x.out(i, 2), want[i]);
            Works.due("out(" + i + ", 4)", x.out(i, 4), i + 1);
        }
    }

    private static void entriesAtALaterStage() {
        Works.sentence("LINE: in their table's stage, so that packets ahead and behind of it see what they should");
        for (int deep = 1; deep <= 10; deep++) {
            PacketWorks x = Works.laid(HEAD + TABLE + "control { " + Works.times(deep, "m = m + 1; ")
                    + "if m == " + deep + " { apply t; } } emit x;");
            Works.due("the table's stage", x.step(deep + 1, 1), deep + 1);
            x.key(0, 5, -1);
            x.datum(0, 10);
            Works.send(x, 0, 5);
            x.entry(0, 0, 0, 0);
            Works.send(x, 0, 5);
            x.entry(2, 0, 0, 0);
            Works.send(x, 0, 5);
            x.run(40);
            Works.due("ahead", x.out(0, 2), 999);
            Works.due("between", x.out(2, 2), 10);
            Works.due("behind", x.out(4, 2), 999);
            Works.due("an entry goes through all stages", x.out(1, 4), 1 + deep + 2);
        }
    }

    private static void tablesWithoutApply() {
        Works.sentence("LINE: Entries of a table without an apply: stage 0");
        PacketWorks x = Works.laid(HEAD + TABLE + "control { m = 1; m = 2; } emit x;");
        x.key(0, 5, -1);
        x.entry(0, 0, 0, 0);
        x.entry(0, 0, 0, 0);
        x.entry(1, 0, 0, 0);
        x.entry(2, 0, 0, 0);
        x.entry(2, 0, 0, 0);
        x.run(7);
        int[] want = {0, 1, 0, 0, 1};
        for (int i = 0; i < want.length; i++) {
            Works.due("out(" + i + ", 1)", x.out(i, 1), want[i]);
            Works.due("out(" + i + ", 4)", x.out(i, 4), i + 2);
        }
        Works.due("entries", x.entries(0, 0), 0);
    }

    private static void cyclesThatRunTakes() {
        Works.sentence("15: n CYCLES: n is not 0 .. 100: IllegalArgumentException");
        PacketWorks x = Works.laid(PLAIN);
        for (int n : new int[] {-1, 101, 1000, Integer.MIN_VALUE, Integer.MAX_VALUE}) {
            Works.dueThrow("run(" + n + ")", IllegalArgumentException.class, () -> x.run(n));
            Works.due("no cycle", x.count(4), 0);
        }
        Works.due("run(0)", x.run(0), 0);
        Works.due("run(100)", x.run(100), 0);
        Works.due("cycles", x.count(4), 100);
        Works.sentence("15: how many operations went OUT");
        for (int i = 0; i < 40; i++) {
            x.packet(0);
        }
        Works.due("run(0)", x.run(0), 0);
        Works.due("run(1)", x.run(1), 0);
        Works.due("run(1)", x.run(1), 1);
        Works.due("run(38)", x.run(38), 38);
        Works.due("run(100)", x.run(100), 1);
        Works.due("run(100)", x.run(100), 0);
    }

    private static void theLatest64() {
        Works.sentence("16: Of an operation that is OUT, one of the latest 64");
        PacketWorks x = Works.laid(PLAIN);
        for (int i = 0; i < 64; i++) {
            x.packet(i);
            if (i % 32 == 31) {
                x.run(33);
            }
        }
        Works.due("OUT", x.count(3), 64);
        Works.due("the first", x.out(0, 0), 0);
        Works.due("the 64th", x.out(63, 0), 0);
        Works.due("none such", x.out(64, 0), -1);
        x.packet(0);
        x.run(1);
        Works.due("one more in a stage: the first is there", x.out(0, 4), 1);
        x.run(1);
        Works.due("one more OUT: the first is not there", x.out(0, 0), -1);
        for (int what = 0; what <= 4; what++) {
            Works.due("out(0, " + what + ")", x.out(0, what), -1);
        }
        Works.due("byteAt(0, 0)", x.byteAt(0, 0), -1);
        Works.due("did(0, 0)", x.did(0, 0), -1);
        Works.due("the second", x.out(1, 0), 0);
        Works.due("the last", x.out(64, 0), 0);
    }

    private static void linesThatAreFullAgain() {
        Works.sentence("16: also when 40 are in line and 12 in stages");
        PacketWorks x = Works.with(HEAD + "control { " + Works.times(11, "m = m + 1; ") + "out_port = x.a ++ m; } emit x;");
        Works.due("lay(12)", x.lay(12, 0, 0), 12);
        int sent = 0;
        for (int round = 0; round < 3; round++) {
            while (x.count(1) < 40 && sent < 116) {
                x.feed(sent << 24, 0, 0, 0, 0);
                x.end(1);
                x.packet(0);
                sent++;
            }
            x.run(round < 2 ? 38 : 0);
        }
        int out = x.count(3);
        Works.due("came", x.count(0), 116);
        Works.due("in line", x.count(1), 40);
        Works.due("in stages", x.count(2), 12);
        Works.due("OUT", out, 64);
        for (int i = 0; i < 64; i += 9) {
            Works.due("out_port of " + i, x.out(i, 2), i * 256 + 11);
            Works.due("its byte", x.byteAt(i, 0), i);
        }
    }

    private static void rowsAreUsedAgain() {
        Works.sentence("16: what an operation was does not show in a later one");
        PacketWorks x = Works.laid(HEAD + TABLE + "control { if x.a == 1 { drop; } apply t; } emit x;");
        int sent = 0;
        for (int round = 0; round < 9; round++) {
            for (int i = 0; i < 30; i++) {
                sent = (i + round) % 3 == 0 ? x.entry(2, 0, 0, 0) : x.packet(0);
            }
            x.run(34);
            x.run(0);
            for (int n = sent - 2; n <= sent; n++) {
                boolean entry = (n % 30 + round) % 3 == 0;
                Works.due("kind of " + n, x.out(n, 0), entry ? 3 : 0);
                Works.due("outcome of " + n, x.out(n, 1), entry ? 1 : 2);
                Works.due("did(" + n + ", 2)", x.did(n, 2), -1);
            }
        }
        Works.due("all", x.count(3), 270);
    }
}
