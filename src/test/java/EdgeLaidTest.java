/** Boundary cases of the term LAID, with promises 7 to 10: what may be in one stage and what may not, memory, wires. */
public final class EdgeLaidTest {
    private static final String HEAD = "header h { a : 8; b : 8; } use x : h; use y : h; meta m : 8; meta n : 8; meta o : 1;"
            + " meta q : 64; array r : 8 [4]; array s : 8 [4]; ";
    private static final int MUCH = Integer.MAX_VALUE;

    public static void main(String[] args) {
        aWriterAhead();
        aReaderAhead();
        neitherOfThem();
        ifsAhead();
        validity();
        addAndTakeWriteAll();
        droppedIsWritten();
        applies();
        arraysInOneStage();
        eightSteps();
        eightStepsAndRules();
        memoryOfHashed();
        memoryOfOthers();
        parametersInMemory();
        wires();
        memoryThatIsJustEnough();
        wiresThatAreJustEnough();
        theFirstStageThatFits();
        asManyStagesAsAsked();
        stepsWithoutAStage();
        allPlaces();
        Works.done();
    }

    /** The stages of all steps of a control, laid with room for all. */
    private static void stages(String parts, String block, int... want) {
        PacketWorks x = Works.with(HEAD + parts + "control { " + block + " } emit x;");
        int most = 0;
        for (int stage : want) {
            most = Math.max(most, stage);
        }
        Works.due("lay() of " + block, x.lay(12, MUCH, MUCH), most + 1);
        for (int i = 0; i < want.length; i++) {
            Works.due("stage of step " + i + " of " + block, x.step(i, 1), want[i]);
        }
        Works.due("a step more", x.step(want.length, 1), -1);
    }

    private static void stages(String block, int... want) {
        stages("", block, want);
    }

    private static void aWriterAhead() {
        Works.sentence("LAID: Step j must be in a later stage than an earlier step i that writes what j reads or writes");
        stages("m = 1; n = m;", 0, 1);
        stages("m = 1; m = 2;", 0, 1);
        stages("x.a = 1; m = x.a;", 0, 1);
        stages("x.a = 1; x.a = 2;", 0, 1);
        stages("m = 1; if m == 1 { }", 0, 1);
        stages("m = 1; store r [m] 1;", 0, 1);
        stages("m = 1; store r [0] m;", 0, 1);
        stages("m = 1; load n r [m];", 0, 1);
        stages("load m r [0]; n = m;", 0, 1);
        stages("load m r [0]; m = 1;", 0, 1);
        stages("m = 1; load m r [0];", 0, 1);
        stages("out_port = 1; out_port = 2;", 0, 1);
        stages("out_port = 1; m = out_port[7:0];", 0, 1);
        stages("m = 1; o = 1; n = o ? n : m;", 0, 0, 1);
        stages("m = 1; n = m; q = n as 64; q = q + 1;", 0, 1, 2, 3);
    }

    private static void aReaderAhead() {
        Works.sentence("LAID: not in an earlier one than i that reads what j writes");
        stages("n = m; m = 1;", 0, 0);
        stages("o = 1; n = o ? m : 1; m = 1;", 0, 1, 1);
        stages("if m == 1 { } m = 1;", 0, 0);
        stages("n = 1; store r [n] m; m = 3;", 0, 1, 1);
        stages("n = 1; x.a = n; add x;", 0, 1, 2);
        stages("n = 1; o = (x.a == n); take x;", 0, 1, 1);
        stages("o = 1; if o { n = m; } m = 1;", 0, 1, 2, 2);
    }

    private static void neitherOfThem() {
        Works.sentence("LAID: two that read the same may be in any stages");
        stages("m = q[7:0]; n = q[7:0];", 0, 0);
        stages("o = 1; m = o ? q[7:0] : 1; n = q[7:0];", 0, 1, 0);
        stages("x.a = m; x.b = m;", 0, 0);
        stages("x.a = 1; y.a = 1; x.b = 1; y.b = 1;", 0, 0, 0, 0);
        stages("m = in_port[7:0]; n = length[7:0]; out_port = in_port;", 0, 0, 0);
    }

    private static void ifsAhead() {
        Works.sentence("LAID: in a later stage than an if in whose blocks j is (an if ahead of its blocks)");
        stages("if 1 { drop; }", 0, 1);
        stages("if 1 { } else { drop; }", 0, 1);
        stages("if 1 { if 1 { if 1 { drop; } } }", 0, 1, 2, 3);
        stages("if 1 { if 1 { } else { m = 1; } n = 1; } else { q = 1; } o = 1;", 0, 1, 2, 1, 1, 0);
        stages("if 1 { } drop;", 0, 0);
        stages("if 1 { m = 1; } else { m = 2; }", 0, 1, 2);
        stages("m = 1; if m == 1 { n = 1; } else { o = 1; }", 0, 1, 2, 2);
        stages("if 1 { if 1 { } if 1 { } } if 1 { }", 0, 1, 1, 0);
        stages("if 1 { if 1 { if 1 { if 1 { if 1 { if 1 { if 1 { drop; } } } } } } }", 0, 1, 2, 3, 4, 5, 6, 7);
    }

    private static void validity() {
        Works.sentence("LAID: a field's reading or writing reads its instance's validity");
        stages("add x; m = x.a;", 0, 1);
        stages("take x; x.a = 1;", 0, 1);
        stages("add x; o = valid x;", 0, 1);
        stages("o = valid x; add x;", 0, 0);
        stages("m = 1; x.a = m; o = valid x;", 0, 1, 0);
        stages("x.a = 1; o = valid x;", 0, 0);
        stages("add x; o = valid y; m = y.a; y.b = 1;", 0, 0, 0, 0);
        stages("add x; load x.a r [0];", 0, 1);
        stages("add x; store r [0] x.a;", 0, 1);
        stages("add x; store r [x.b] 1;", 0, 1);
        stages("add x; if x.b == 1 { }", 0, 1);
    }

    private static void addAndTakeWriteAll() {
        Works.sentence("LAID: add and take write validity and all fields");
        for (String word : new String[] {"add", "take"}) {
            stages("x.a = 1; " + word + " x;", 0, 1);
            stages("x.b = 1; " + word + " x;", 0, 1);
            stages("m = x.a; " + word + " x;", 0, 0);
            stages(word + " x; " + word + " x;", 0, 1);
            stages(word + " x; " + word + " y;", 0, 0);
            stages(word + " x; m = x.b;", 0, 1);
            stages(word + " x; x.b = 1;", 0, 1);
        }
        stages("add x; take x; add x;", 0, 1, 2);
        stages("header w { " + Works.times(16, "f# : 8; ") + "} use z : w; ", "z.f15 = 1; add z; m = z.f15; take z;", 0, 1, 2, 2);
    }

    private static void droppedIsWritten() {
        Works.sentence("LAID: A step READS and WRITES DROPPED");
        stages("drop; drop; drop;", 0, 1, 2);
        stages("drop; m = 1;", 0, 0);
        stages("action d () { drop; } table t { key 1 : exact; actions d; default d (); room 1 ways 1 stash 0; } ",
                "drop; apply t; drop;", 0, 1, 2);
    }

    private static void applies() {
        Works.sentence("LAID: apply all that its keys, its actions and default's do");
        String parts = "action a () { x.a = n; } action b (p : 8) { y.a = p; } action c () { y.b = 1; } action d () { drop; }"
                + " table t { key m : exact; key o : exact; actions a, b; default c (); room 1 ways 1 stash 0; } ";
        stages(parts, "apply t;", 0);
        stages(parts, "m = 1; apply t;", 0, 1);
        stages(parts, "o = 1; apply t;", 0, 1);
        stages(parts, "n = 1; apply t;", 0, 1);
        stages(parts, "x.a = 1; apply t;", 0, 1);
        stages(parts, "y.a = 1; apply t;", 0, 1);
        stages(parts, "y.b = 1; apply t;", 0, 1);
        stages(parts, "add y; apply t;", 0, 1);
        stages(parts, "apply t; m = 1; o = 1; n = 1;", 0, 0, 0, 0);
        stages(parts, "apply t; m = x.a;", 0, 1);
        stages(parts, "apply t; n = y.a;", 0, 1);
        stages(parts, "apply t; n = y.b;", 0, 1);
        stages(parts, "apply t; take x;", 0, 1);
        stages(parts, "apply t; x.b = 1; drop; q = 1;", 0, 0, 0, 0);
        stages(parts, "drop; apply t;", 0, 0);
        stages(parts, "if 1 { apply t; }", 0, 1);
    }

    private static void arraysInOneStage() {
        Works.sentence("LAID: and in the same as i that has an array with it");
        stages("store r [0] 1; store r [0] 2;", 0, 0);
        stages("m = 1; store r [0] m; store r [0] 2; load n r [0]; store s [0] 1;", 0, 1, 1, 1, 0);
        stages("m = 1; store r [m] 1; load n r [0];", 0, 1, 1);
        String parts = "action a () { store r [0] 1; } action b () { load n s [0]; } table t { key 1 : exact; actions a;"
                + " default b (); room 1 ways 1 stash 0; } ";
        stages(parts, "m = 1; store r [0] m; apply t;", 0, 1, 1);
        stages(parts, "m = 1; store s [0] m; apply t;", 0, 1, 1);
        stages(parts, "apply t; store s [0] 1; store r [0] 1;", 0, 0, 0);
        homeless("", "load m r [0]; store r [m] 1;", 1);
        homeless("", "store r [0] 1; m = 1; store r [m] 1;", 2);
        homeless("", "store r [0] 1; if 1 { store r [0] 2; }", 2);
        homeless(parts, "store r [0] 1; m = 1; store s [m] 1; apply t;", 3);
        homeless("", "load m r [0]; load m r [1];", 1);
    }

    /** A control of which a step finds no stage, though there are twelve with room for all. */
    private static void homeless(String parts, String block, int step) {
        PacketWorks x = Works.with(HEAD + parts + "control { " + block + " } emit x;");
        Works.dueThrow("lay() of " + block, IndexOutOfBoundsException.class, () -> x.lay(12, MUCH, MUCH));
        Works.due("homeless() of " + block, x.homeless(), step);
        Works.due("nothing is LAID", x.count(5), 0);
    }

    private static void eightSteps() {
        Works.sentence("LAID: the first stage where with it there are at most 8 steps");
        for (int steps : new int[] {1, 7, 8, 9, 16, 17, 48}) {
            PacketWorks x = Works.with(HEAD + "control { " + Works.times(steps, "if 1 { } ") + "} emit x;");
            int stages = (steps + 7) / 8;
            Works.due("lay() of " + steps, x.lay(12, 0, 0), stages);
            for (int g = 0; g < stages; g++) {
                Works.due("stage(" + g + ", 0)", x.stage(g, 0), Math.min(8, steps - 8 * g));
            }
            Works.due("the last one", x.step(steps - 1, 1), stages - 1);
        }
        PacketWorks x = Works.with(HEAD + "control { " + Works.times(9, "if 1 { } ") + "} emit x;");
        Works.dueThrow("nine in one", IndexOutOfBoundsException.class, () -> x.lay(1, 0, 0));
        Works.due("homeless()", x.homeless(), 8);
        PacketWorks y = Works.with(HEAD + "control { " + Works.times(8, "if 1 { } ") + "} emit x;");
        Works.due("eight in one", y.lay(1, 0, 0), 1);
    }

    private static void eightStepsAndRules() {
        Works.sentence("LAID: a stage that is full is passed over, also by steps of an array");
        stages(Works.times(8, "if 1 { } ") + "m = 1; n = m; q = 1;", 0, 0, 0, 0, 0, 0, 0, 0, 1, 2, 1);
        homeless("", Works.times(9, "store r [#] 1; "), 8);
        homeless("", "store r [0] 1; " + Works.times(7, "if 1 { } ") + "store r [0] 1;", 8);
        stages("store r [0] 1; " + Works.times(7, "if 1 { } ") + "store s [0] 1;", 0, 0, 0, 0, 0, 0, 0, 0, 1);
    }

    private static int memory(String parts, String keys, String actions, String room) {
        PacketWorks x = Works.with(HEAD + parts + "table t { " + keys + " actions " + actions + "; default z (1, 2, 3, 4); room "
                + room + "; } control { apply t; } emit x;");
        x.lay(1, MUCH, MUCH);
        Works.due("one step", x.stage(0, 0), 1);
        return x.stage(0, 1);
    }

    private static final String SOME = "action z (p : 64, k : 64, l : 64, u : 64) { } action a () { } action b (p : 1) { }"
            + " action c (p : 8, k : 16) { } action d (p : 20) { } ";

    private static void memoryOfHashed() {
        Works.sentence("LAID: memory: (N times W and S) times (the keys' widths, and the greatest sum, and 8)");
        Works.due("the least", memory(SOME, "key o : exact;", "a", "1 ways 1 stash 0"), 1 * (1 + 0 + 8));
        Works.due("a stash", memory(SOME, "key o : exact;", "a", "1 ways 1 stash 1"), 2 * 9);
        Works.due("ways", memory(SOME, "key o : exact;", "a", "1 ways 4 stash 0"), 4 * 9);
        Works.due("buckets", memory(SOME, "key o : exact;", "a", "16 ways 1 stash 0"), 16 * 9);
        Works.due("all", memory(SOME, "key o : exact;", "a", "16 ways 4 stash 8"), 72 * 9);
        Works.due("keys", memory(SOME, "key o : exact; key m : exact; key q : exact;", "a", "2 ways 3 stash 5"), 11 * (73 + 8));
        Works.due("the most", memory(SOME, Works.times(4, "key q : exact; "), "z", "16 ways 4 stash 8"), 72 * (256 + 256 + 8));
    }

    private static void memoryOfOthers() {
        Works.sentence("LAID: memory: room times (the keys' widths, twice if not HASHED, and the greatest sum, and 8)");
        Works.due("the least", memory(SOME, "key o : masked;", "a", "1"), 1 * (2 + 0 + 8));
        Works.due("prefix", memory(SOME, "key o : prefix;", "a", "32"), 32 * 10);
        Works.due("exact beside prefix, twice too", memory(SOME, "key m : exact; key o : prefix;", "a", "3"), 3 * (18 + 8));
        Works.due("the most", memory(SOME, Works.times(4, "key q : masked; "), "z", "32"), 32 * (512 + 256 + 8));
    }

    private static void parametersInMemory() {
        Works.sentence("LAID: the greatest of its listed actions' sums of parameters' widths");
        Works.due("none", memory(SOME, "key o : exact;", "a", "1 ways 1 stash 0"), 9);
        Works.due("one bit", memory(SOME, "key o : exact;", "b", "1 ways 1 stash 0"), 10);
        Works.due("a sum", memory(SOME, "key o : exact;", "c", "1 ways 1 stash 0"), 9 + 24);
        Works.due("the first is the greatest", memory(SOME, "key o : exact;", "c, d, a", "1 ways 1 stash 0"), 9 + 24);
        Works.due("the last is the greatest", memory(SOME, "key o : exact;", "a, b, d", "1 ways 1 stash 0"), 9 + 20);
        Works.due("default's do not count", memory(SOME, "key o : exact;", "b, a", "1 ways 1 stash 0"), 10);
        String four = "action a (p : 1, k : 2, l : 3, u : 4) { } action b (p : 64, k : 64, l : 64, u : 64) { }"
                + " action z (p : 1, k : 2, l : 3, u : 4) { } ";
        Works.due("those of another do not count", memory(four, "key o : exact;", "a", "1 ways 1 stash 0"), 9 + 10);
        Works.due("those of another do not count", memory(four, "key o : exact;", "z", "1 ways 1 stash 0"), 9 + 10);
        Works.due("all four do", memory(four, "key o : exact;", "a, b", "1 ways 1 stash 0"), 9 + 256);
        String sixteen = Works.times(15, "action a# (p : 64) { } ") + "action z (p : 8, k : 8, l : 8, u : 7) { } ";
        Works.due("the sixteenth", memory(sixteen, "key o : exact;", "z", "1 ways 1 stash 0"), 9 + 31);
        PacketWorks again = Works.laid(HEAD + SOME + "table t { key q : exact; actions c, z; default a (); room 4 ways 4 stash 4; }"
                + " control { apply t; } emit x;");
        Works.put(again, HEAD + "action a (p : 2) { } table t { key o : exact; actions a; default a (1); room 1 ways 1 stash 0; }"
                + " control { apply t; } emit x;");
        again.read();
        again.lay(1, MUCH, MUCH);
        Works.due("those of a program before do not count", again.stage(0, 1), 9 + 2);
    }

    private static void wires() {
        Works.sentence("LAID: and the keys' widths in wires");
        String[] keys = {"key o : exact;", "key q : exact;", "key m : prefix; key o : exact;", "key q : masked; key q : masked;"};
        int[] want = {1, 64, 9, 128};
        for (int i = 0; i < keys.length; i++) {
            boolean hashed = i < 2;
            PacketWorks x = Works.laid(HEAD + SOME + "table t { " + keys[i] + " actions z; default a (); room 1"
                    + (hashed ? " ways 1 stash 0" : "") + "; } control { apply t; } emit x;");
            Works.due("wires of " + keys[i], x.stage(0, 2), want[i]);
        }
        Works.sentence("LAID: NEEDS: an apply; all else needs nothing");
        PacketWorks x = Works.with(HEAD + "control { m = n + 1; store r [m] n; load x.a s [0]; if q == 1 { } add y; } emit x;");
        Works.due("lay()", x.lay(12, 0, 0), 2);
        Works.due("stage(0, 1)", x.stage(0, 1), 0);
        Works.due("stage(0, 2)", x.stage(0, 2), 0);
    }

    private static final String TWO = HEAD + "action a () { } table t { key m : exact; actions a; default a ();"
            + " room 2 ways 1 stash 0; } table u { key n : masked; actions a; default a (); room 2; }"
            + " control { apply t; apply u; } emit x;";
    private static final int FIRST = 2 * (8 + 8);
    private static final int SECOND = 2 * (16 + 8);

    private static void memoryThatIsJustEnough() {
        Works.sentence("LAID: no more memory than a stage has");
        PacketWorks x = Works.with(TWO);
        Works.due("both", x.lay(12, FIRST + SECOND, MUCH), 1);
        Works.due("stage(0, 1)", x.stage(0, 1), FIRST + SECOND);
        PacketWorks y = Works.with(TWO);
        Works.due("one less", y.lay(12, FIRST + SECOND - 1, MUCH), 2);
        Works.due("stage(0, 1)", y.stage(0, 1), FIRST);
        Works.due("stage(1, 1)", y.stage(1, 1), SECOND);
        PacketWorks z = Works.with(TWO);
        Works.dueThrow("less than the second", IndexOutOfBoundsException.class, () -> z.lay(12, SECOND - 1, MUCH));
        Works.due("homeless()", z.homeless(), 1);
        Works.dueThrow("less than the first", IndexOutOfBoundsException.class, () -> z.lay(12, FIRST - 1, MUCH));
        Works.due("homeless()", z.homeless(), 0);
        Works.dueThrow("none", IndexOutOfBoundsException.class, () -> z.lay(12, 0, MUCH));
        Works.due("homeless()", z.homeless(), 0);
        Works.dueThrow("one stage", IndexOutOfBoundsException.class, () -> z.lay(1, FIRST + SECOND - 1, MUCH));
        Works.due("homeless()", z.homeless(), 1);
        Works.due("just enough", z.lay(2, SECOND, MUCH), 2);
    }

    private static void wiresThatAreJustEnough() {
        Works.sentence("LAID: no more wires than a stage has");
        PacketWorks x = Works.with(TWO);
        Works.due("both", x.lay(12, MUCH, 16), 1);
        Works.due("stage(0, 2)", x.stage(0, 2), 16);
        PacketWorks y = Works.with(TWO);
        Works.due("one less", y.lay(12, MUCH, 15), 2);
        Works.due("stage(0, 2)", y.stage(0, 2), 8);
        Works.due("stage(1, 2)", y.stage(1, 2), 8);
        PacketWorks z = Works.with(TWO);
        Works.dueThrow("one less than a table needs", IndexOutOfBoundsException.class, () -> z.lay(12, MUCH, 7));
        Works.due("homeless()", z.homeless(), 0);
        Works.dueThrow("none", IndexOutOfBoundsException.class, () -> z.lay(12, MUCH, 0));
        Works.due("just enough", z.lay(2, MUCH, 8), 2);
    }

    private static void theFirstStageThatFits() {
        Works.sentence("LAID: In order, each step comes to the first stage where it may be");
        PacketWorks x = Works.with(TWO.replace("control { apply t; apply u; }", "control { apply u; apply t; m = 1; q = 1; }"));
        Works.due("lay()", x.lay(12, SECOND, MUCH), 2);
        int[] want = {0, 1, 1, 0};
        for (int i = 0; i < want.length; i++) {
            Works.due("step " + i, x.step(i, 1), want[i]);
        }
        PacketWorks y = Works.with(HEAD + "action a () { } " + Works.times(3, "table t# { key m : exact; actions a; default a ();"
                + " room # ways 1 stash 0; } ").replace("room 0", "room 4") + "control { apply t0; apply t1; apply t2; } emit x;");
        Works.due("4, then 1, then 2 of 5", y.lay(12, 5 * 16, MUCH), 2);
        Works.due("the one between", y.step(1, 1), 0);
        Works.due("the last", y.step(2, 1), 1);
    }

    private static void asManyStagesAsAsked() {
        Works.sentence("7: how many it takes, at least 1");
        PacketWorks none = Works.with(HEAD + "control { } emit x;");
        Works.due("no steps", none.lay(12, 0, 0), 1);
        Works.due("stage(0, 0)", none.stage(0, 0), 0);
        Works.due("stage(0, 1)", none.stage(0, 1), 0);
        Works.due("stage(0, 2)", none.stage(0, 2), 0);
        for (int deep = 1; deep <= 13; deep++) {
            String text = HEAD + "control { " + Works.times(deep, "m = m + 1; ") + "} emit x;";
            for (int stages : new int[] {1, deep - 1, deep, deep + 1, 12}) {
                PacketWorks x = Works.with(text);
                if (stages < 1 || stages > 12) {
                    Works.dueThrow("lay(" + stages + ")", IllegalArgumentException.class, () -> x.lay(stages, 0, 0));
                } else if (stages < deep) {
                    Works.dueThrow(deep + " in " + stages, IndexOutOfBoundsException.class, () -> x.lay(stages, 0, 0));
                    Works.due("homeless()", x.homeless(), stages);
                } else {
                    Works.due(deep + " in " + stages, x.lay(stages, 0, 0), deep);
                    Works.due("count(5)", x.count(5), deep);
                    Works.due("the last stage", x.stage(deep - 1, 0), 1);
                }
            }
        }
    }

    private static void stepsWithoutAStage() {
        Works.sentence("7: IndexOutOfBoundsException: a step finds no stage (homeless() tells it; nothing is LAID)");
        PacketWorks x = Works.with(TWO);
        Works.dueThrow("lay()", IndexOutOfBoundsException.class, () -> x.lay(1, FIRST, 16));
        Works.due("homeless()", x.homeless(), 1);
        Works.due("count(5)", x.count(5), 0);
        Works.due("step(0, 1)", x.step(0, 1), -1);
        Works.due("step(0, 2)", x.step(0, 2), 0);
        Works.due("stage(0, 0)", x.stage(0, 0), -1);
        Works.dueThrow("run", IllegalStateException.class, () -> x.run(1));
        Works.dueThrow("packet", IllegalStateException.class, () -> x.packet(1));
        Works.dueThrow("entry", IllegalStateException.class, () -> x.entry(0, 0, 0, 0));
        Works.due("and then with more room", x.lay(1, FIRST + SECOND, 16), 1);
        Works.due("what the refused one used is not there", x.stage(0, 0), 2);
        Works.due("memory", x.stage(0, 1), FIRST + SECOND);
        Works.due("wires", x.stage(0, 2), 16);
    }

    /** Twelve instances of sixteen fields, all metas: steps that write to different places are in one stage. */
    private static void allPlaces() {
        Works.sentence("LAID: fields, validity of instances, metas, each for itself");
        String head = "header w{" + Works.times(16, "f#:8;") + "}" + Works.times(12, "use k#:w;") + Works.times(13, "meta m#:8;");
        String[] places = new String[12 * 16 + 13];
        for (int i = 0; i < places.length; i++) {
            places[i] = i < 192 ? "k" + i / 16 + ".f" + i % 16 : "m" + (i - 192);
        }
        for (int stride = 1; stride <= 32; stride++) {
            for (int first = 0; first < places.length; first += 8) {
                StringBuilder block = new StringBuilder();
                for (int k = 0; k < 8; k++) {
                    int at = (first + k) * (stride % 5 == 0 || stride % 41 == 0 ? stride + 1 : stride) % places.length;
                    block.append(places[at]).append("=1;");
                }
                PacketWorks x = Works.with(head + "control{" + block + "}emit k0;");
                Works.due("lay() of " + block, x.lay(12, 0, 0), 1);
            }
        }
        for (int i = 0; i < places.length; i++) {
            String last = i < 192 ? "take k" + i / 16 + ";" : "m0=" + places[i] + ";";
            PacketWorks x = Works.with(head + "control{" + places[i] + "=1;" + places[i] + "=2;" + last + "}emit k0;");
            Works.due("lay() of " + places[i] + " twice, " + last, x.lay(12, 0, 0), 3);
        }
        for (int i = 0; i < 12; i++) {
            String others = "";
            for (int k = 0; k < 12; k++) {
                others += k == i || k == (i + 5) % 12 ? "" : k % 2 == 0 ? "add k" + k + ";" : "k" + k + ".f15=1;";
            }
            PacketWorks x = Works.with(head + "control{take k" + i + ";" + others + "drop;if valid k" + i + "{}}emit k0;");
            Works.due("lay() of " + others, x.lay(12, 0, 0), 2);
            Works.due("the last of eight others", x.step(7, 1), 0);
            Works.due("drop", x.step(11, 1), 1);
        }
    }
}
