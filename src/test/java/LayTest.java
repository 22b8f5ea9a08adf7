/** Promises 7 to 10 with the term LAID: lay, homeless, step, stage. */
public final class LayTest {
    private static final String HEAD = "header h { a : 8; b : 8; } use x : h; use y : h; meta m : 8; meta n : 8; meta o : 1;"
            + " array r : 8 [4]; array s : 8 [4]; ";
    private static final int MUCH = Integer.MAX_VALUE;

    public static void main(String[] args) {
        whatIsRefused();
        aProgramWithoutSteps();
        writersAndReaders();
        validityAndDropped();
        ifsAndTheirBlocks();
        arraysStayTogether();
        appliesReadAndWrite();
        eightStepsAStage();
        memoryAndWires();
        homelessSteps();
        kindsOfSteps();
        Works.done();
    }

    /** Lays a control with room for all: the stage of each step, in order. */
    private static void stages(String parts, String block, int... want) {
        PacketWorks x = Works.with(HEAD + parts + "control { " + block + " } emit x;");
        int most = 0;
        for (int stage : want) {
            most = Math.max(most, stage);
        }
        Works.due("lay() of " + block, x.lay(12, MUCH, MUCH), most + 1);
        Works.due("size(7) of " + block, x.size(7), want.length);
        Works.due("homeless() of " + block, x.homeless(), -1);
        for (int i = 0; i < want.length; i++) {
            Works.due("step(" + i + ", 1) of " + block, x.step(i, 1), want[i]);
        }
        for (int g = 0; g <= most; g++) {
            int steps = 0;
            for (int stage : want) {
                steps += stage == g ? 1 : 0;
            }
            Works.due("stage(" + g + ", 0) of " + block, x.stage(g, 0), steps);
        }
        Works.due("stage behind the last", x.stage(most + 1, 0), -1);
    }

    private static void stages(String block, int... want) {
        stages("", block, want);
    }

    private static void whatIsRefused() {
        PacketWorks x = Works.with(HEAD + "control { m = 1; n = m; } emit x;");
        Works.due("step(0, 1)", x.step(0, 1), -1);
        Works.due("stage(0, 0)", x.stage(0, 0), -1);
        Works.dueThrow("lay(0)", IllegalArgumentException.class, () -> x.lay(0, 1, 1));
        Works.dueThrow("lay(13)", IllegalArgumentException.class, () -> x.lay(13, 1, 1));
        Works.dueThrow("lay memory", IllegalArgumentException.class, () -> x.lay(1, -1, 1));
        Works.dueThrow("lay wires", IllegalArgumentException.class, () -> x.lay(1, 1, -1));
        Works.due("homeless()", x.homeless(), -1);
        Works.dueThrow("lay(1)", IndexOutOfBoundsException.class, () -> x.lay(1, 0, 0));
        Works.due("homeless()", x.homeless(), 1);
        Works.due("count(5)", x.count(5), 0);
        Works.due("step(0, 1)", x.step(0, 1), -1);
        Works.due("stage(0, 0)", x.stage(0, 0), -1);
        Works.dueThrow("lay(0)", IllegalArgumentException.class, () -> x.lay(0, 1, 1));
        Works.due("homeless() stays when it is refused otherwise", x.homeless(), 1);
        Works.due("lay(12)", x.lay(12, 0, 0), 2);
        Works.due("homeless()", x.homeless(), -1);
        Works.due("count(5)", x.count(5), 2);
        Works.dueThrow("lay again", IllegalStateException.class, () -> x.lay(0, -1, -1));
        Works.due("stage(1, 0)", x.stage(1, 0), 1);
        Works.due("stage(2, 0)", x.stage(2, 0), -1);
        Works.due("stage(-1, 0)", x.stage(-1, 0), -1);
        Works.due("stage(0, 3)", x.stage(0, 3), -1);
        Works.due("stage(0, -1)", x.stage(0, -1), -1);
    }

    private static void aProgramWithoutSteps() {
        PacketWorks x = Works.with(HEAD + "control { } emit x;");
        Works.due("lay(1)", x.lay(1, 0, 0), 1);
        Works.due("stage(0, 0)", x.stage(0, 0), 0);
        Works.due("stage(1, 0)", x.stage(1, 0), -1);
        Works.due("step(0, 0)", x.step(0, 0), -1);
    }

    private static void writersAndReaders() {
        stages("m = 1; n = m;", 0, 1);
        stages("m = 1; m = 2;", 0, 1);
        stages("n = m; m = 1;", 0, 0);
        stages("m = 1; n = m; m = 3; m = 4;", 0, 1, 1, 2);
        stages("m = 1; n = 2; o = 1;", 0, 0, 0);
        stages("m = m + 1; m = m + 1; m = m + 1;", 0, 1, 2);
        stages("x.a = 1; m = x.b; n = x.a;", 0, 0, 1);
        stages("x.a = 1; y.a = x.a; m = in_port[7:0];", 0, 1, 0);
        stages("m = 1; n = o ? n : m;", 0, 1);
    }

    private static void validityAndDropped() {
        stages("add x; x.a = 1;", 0, 1);
        stages("add x; m = x.a;", 0, 1);
        stages("add x; o = valid x;", 0, 1);
        stages("take x; add x;", 0, 1);
        stages("x.a = 1; add x;", 0, 1);
        stages("m = x.a; add x;", 0, 0);
        stages("o = valid x; take x;", 0, 0);
        stages("o = valid x; x.a = 1;", 0, 0);
        stages("add x; y.a = 1; add y;", 0, 0, 1);
        stages("drop; drop; m = 1;", 0, 1, 0);
        String wide = "header w { " + Works.times(16, "f# : 8; ") + "} use z : w; ";
        stages(wide, "m = z.f15; take z; n = z.f0;", 0, 0, 1);
        stages(wide, "z.f15 = 1; add z; z.f7 = 2; o = valid z;", 0, 1, 2, 2);
        stages("load x.a r [0]; take x;", 0, 1);
        stages("store r [x.a] 1; take x;", 0, 0);
    }

    private static void ifsAndTheirBlocks() {
        stages("if o { m = 1; } n = 1;", 0, 1, 0);
        stages("if o { } else { m = 1; }", 0, 1);
        stages("if o { if valid x { drop; } else { m = 1; } }", 0, 1, 2, 2);
        stages("if m == 1 { m = 2; } else { m = 3; }", 0, 1, 2);
        stages("m = 1; if m == 1 { n = 2; }", 0, 1, 2);
        stages("if o { o = 1; } if o { n = 1; }", 0, 1, 2, 3);
    }

    private static void arraysStayTogether() {
        stages("m = 1; store r [0] m; load n r [0];", 0, 1, 1);
        stages("load n r [0]; store s [0] 1; store r [1] 2;", 0, 0, 0);
        stages("load m r [0]; store r [0] 1;", 0, 0);
    }

    private static void appliesReadAndWrite() {
        String parts = "action a (p : 8) { n = x.a; store r [0] p; } action d () { drop; } action z () { y.b = 1; }"
                + " table t { key m : exact; actions a, d; default z (); room 1 ways 1 stash 0; }"
                + " table u { key 1 : exact; actions d; default d (); room 1 ways 1 stash 0; } ";
        stages(parts, "m = 1; apply t;", 0, 1);
        stages(parts, "apply t; m = 1;", 0, 0);
        stages(parts, "apply t; x.a = 1; n = 1;", 0, 0, 1);
        stages(parts, "apply t; drop;", 0, 1);
        stages(parts, "drop; apply u; apply t;", 0, 1, 2);
        stages(parts, "add x; apply t; y.b = 2;", 0, 1, 2);
        stages(parts, "apply t; load x.b r [0];", 0, 0);
        stages(parts, "store r [0] 1; m = 1; store s [0] m; apply u; add y;", 0, 0, 1, 0, 0);
    }

    private static void eightStepsAStage() {
        stages("if 1 { } if 1 { } if 1 { } if 1 { } if 1 { } if 1 { } if 1 { } if 1 { } if 1 { } drop;",
                0, 0, 0, 0, 0, 0, 0, 0, 1, 1);
    }

    private static final String TABLES = "action a (p : 8, q : 16) { } action b (p : 64, q : 64) { } action c (p : 3) { }"
            + " table e { key x.a : exact; key x.b ++ y.a : exact; actions c, a; default b (1, 2); room 4 ways 2 stash 3; }"
            + " table k { key in_port : masked; key m : exact; actions c; default b (1, 2); room 5; } ";

    private static void memoryAndWires() {
        String text = HEAD + TABLES + "control { apply e; apply k; drop; } emit x;";
        int exact = (4 * 2 + 3) * (24 + 24 + 8);
        int masked = 5 * (2 * 24 + 3 + 8);
        PacketWorks x = Works.with(text);
        Works.due("lay()", x.lay(12, exact + masked, 48), 1);
        Works.due("stage(0, 0)", x.stage(0, 0), 3);
        Works.due("stage(0, 1)", x.stage(0, 1), exact + masked);
        Works.due("stage(0, 2)", x.stage(0, 2), 48);
        PacketWorks lessMemory = Works.with(text);
        Works.due("lay()", lessMemory.lay(12, exact + masked - 1, 48), 2);
        Works.due("stage(0, 1)", lessMemory.stage(0, 1), exact);
        Works.due("stage(1, 1)", lessMemory.stage(1, 1), masked);
        Works.due("the step behind is in the first stage all the same", lessMemory.step(2, 1), 0);
        PacketWorks lessWires = Works.with(text);
        Works.due("lay()", lessWires.lay(12, MUCH, 47), 2);
        Works.due("stage(0, 2)", lessWires.stage(0, 2), 24);
        Works.due("stage(1, 2)", lessWires.stage(1, 2), 24);
        PacketWorks tight = Works.with(text);
        Works.dueThrow("lay()", IndexOutOfBoundsException.class, () -> tight.lay(12, exact - 1, 48));
        Works.due("homeless()", tight.homeless(), 0);
        Works.dueThrow("lay()", IndexOutOfBoundsException.class, () -> tight.lay(1, exact, 48));
        Works.due("homeless()", tight.homeless(), 1);
        Works.dueThrow("lay()", IndexOutOfBoundsException.class, () -> tight.lay(2, exact, 23));
        Works.due("homeless()", tight.homeless(), 0);
        Works.due("lay()", tight.lay(2, exact, 24), 2);
    }

    private static void homelessSteps() {
        PacketWorks later = Works.with(HEAD + "control { load m r [0]; store r [m] 1; } emit x;");
        Works.dueThrow("an array in a later stage", IndexOutOfBoundsException.class, () -> later.lay(12, MUCH, MUCH));
        Works.due("homeless()", later.homeless(), 1);
        PacketWorks torn = Works.with(HEAD + "action a () { store r [0] 1; store s [0] 1; } table t { key 1 : exact;"
                + " actions a; default a (); room 1 ways 1 stash 0; }"
                + " control { store r [0] 1; m = 1; store s [0] m; apply t; } emit x;");
        Works.dueThrow("two arrays apart", IndexOutOfBoundsException.class, () -> torn.lay(12, MUCH, MUCH));
        Works.due("homeless()", torn.homeless(), 3);
        PacketWorks full = Works.with(HEAD + "control { " + Works.times(9, "store r [#] 1; ") + "} emit x;");
        Works.dueThrow("nine with an array", IndexOutOfBoundsException.class, () -> full.lay(12, MUCH, MUCH));
        Works.due("homeless()", full.homeless(), 8);
        PacketWorks deep = Works.with(HEAD + "control { " + Works.times(13, "m = m + 1; ") + "} emit x;");
        Works.dueThrow("thirteen in a row", IndexOutOfBoundsException.class, () -> deep.lay(12, MUCH, MUCH));
        Works.due("homeless()", deep.homeless(), 12);
    }

    private static void kindsOfSteps() {
        PacketWorks x = Works.with(HEAD + TABLES + "control { apply k; if o { drop; } else { apply e; } } emit x;");
        int[] kinds = {2, 1, 0, 2};
        int[] tables = {1, -1, -1, 0};
        for (int i = 0; i < 4; i++) {
            Works.due("step(" + i + ", 0)", x.step(i, 0), kinds[i]);
            Works.due("step(" + i + ", 1)", x.step(i, 1), -1);
            Works.due("step(" + i + ", 2)", x.step(i, 2), tables[i]);
            Works.due("step(" + i + ", 3)", x.step(i, 3), -1);
            Works.due("step(" + i + ", -1)", x.step(i, -1), -1);
        }
        Works.due("step(4, 0)", x.step(4, 0), -1);
        Works.due("step(-1, 0)", x.step(-1, 0), -1);
    }
}
