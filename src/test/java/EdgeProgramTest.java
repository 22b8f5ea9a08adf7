/** Boundary cases of the term PROGRAM: how many of each there may be, and the numbers that may be. */
public final class EdgeProgramTest {
    private static final String HEAD = "header h { a : 8; } use x : h; use y : h; meta m : 8; meta o : 1; meta q : 64;"
            + " array r : 8 [4]; ";
    private static final String END = " control { } emit x;";
    private static final String ACTIONS = "action a () { } action b () { } ";

    public static void main(String[] args) {
        theOrderOfParts();
        fields();
        headerBits();
        widthsOfDeclared();
        sizesOfArrays();
        givenMetas();
        howManyDeclared();
        states();
        extractsAndCases();
        actions();
        keysAndListedActions();
        roomOfExactKeys();
        roomOfOtherKeys();
        steps();
        blocks();
        whatIsEmitted();
        places();
        allAtOnce();
        Works.done();
    }

    private static void fault(int kind, String marked) {
        Works.fault(kind, marked);
    }

    private static void fine(String text) {
        Works.fine(text);
    }

    private static String times(int n, String part) {
        return Works.times(n, part);
    }

    private static void theOrderOfParts() {
        Works.sentence("PROGRAM: any number of these, then a CONTROL, then EMIT");
        fine("meta m : 8; header h { a : 8; } array r : 8 [1]; use x : h; action a () { } meta n : 8; header g { a : 8; }"
                + " table t { key m : exact; actions a; default a (); room 1 ways 1 stash 0; } state s { goto accept; }"
                + " use z : g; control { } emit z;");
        fault(1, "control { } emit @");
        fault(6, "control { } emit @x;");
        fault(1, HEAD + "@emit x;");
        fault(1, HEAD + "@}");
        fault(1, HEAD + "control { } @meta n : 8; emit x;");
        fault(1, HEAD + "control { } @control { } emit x;");
        fault(1, HEAD + "control { } emit x; @emit y;");
        fault(1, HEAD + "control { } emit x; @meta n : 8;");
        fault(1, HEAD + "control { @meta n : 8; } emit x;");
        fault(1, HEAD + "@");
    }

    private static void fields() {
        Works.sentence("PROGRAM: 1 to 16 FIELDS");
        fault(1, "header h { @}");
        fine("header h { a : 8; } use x : h;" + END);
        fine("header h { " + times(16, "f# : 8; ") + "} use x : h;" + END);
        fault(4, "header h { " + times(16, "f# : 8; ") + "@f16 : 8; }");
        fault(4, "header h { " + times(16, "f# : 8; ") + "@f16");
        Works.sentence("PROGRAM: FIELDS of N bits, 1 .. 64");
        fine("header h { " + times(8, "f# : 1; ") + "} use x : h;" + END);
        fine("header h { a : 64; } use x : h;" + END);
        fine("header h { a : 1; b : 63; } use x : h;" + END);
        fault(5, "header h { a : @0; b : 8; }");
        fault(5, "header h { a : @65; b : 7; }");
        fault(5, "header h { a : @72; }");
        fault(5, "header h { a : @0x8000000000000008; }");
        fault(5, "header h { a : @0x100000008; }");
        fault(5, "header h { a : @999999999999999999; }");
        fault(1, "header h { a : @-1; }");
    }

    private static void headerBits() {
        Works.sentence("PROGRAM: in all a multiple of 8, at most 512");
        for (int bits = 1; bits <= 64; bits++) {
            String fields = "{ a : " + bits + "; }";
            if (bits % 8 == 0) {
                fine("header h " + fields + " use x : h;" + END);
            } else {
                fault(8, "header @h " + fields + " use x : h;" + END);
            }
        }
        String most = times(7, "f# : 64; ");
        fine("header h { " + most + "g : 64; } use x : h;" + END);
        fault(8, "header @h { " + most + "g : 64; k : 1; }");
        fault(8, "header @h { " + most + "g : 63; }");
        fault(8, "header @h { " + most + "g : 64; k : 8; }");
        fault(8, "header @h { " + times(16, "f# : 64; ") + "}");
        PacketWorks x = Works.with("header h { " + most + "g : 64; } " + times(12, "use x# : h; ") + "control { } emit x0;");
        Works.due("size(8) of twelve such", x.size(8), 12 * 512);
    }

    private static void widthsOfDeclared() {
        Works.sentence("PROGRAM: a META of N bits, 1 .. 64 (so of arrays and parameters, too)");
        for (String part : new String[] {"meta z : N;", "array z : N [1];", "action z (p : N) { }",
            "action z (p : 8, z : N) { }"}) {
            for (String width : new String[] {"1", "2", "63", "64", "0x40", "000000000000000001"}) {
                fine(HEAD + part.replace("N", width) + END);
            }
            for (String width : new String[] {"0", "65", "128", "0x0", "0x41", "0x8000000000000001", "0xffffffffffffffff",
                "0x100000001", "4294967304"}) {
                fault(5, HEAD + part.replace("N", "@" + width) + END);
            }
        }
    }

    private static void sizesOfArrays() {
        Works.sentence("PROGRAM: SIZE (1 .. 64) words");
        for (String size : new String[] {"1", "64"}) {
            fine(HEAD + "array z : 64 [" + size + "];" + END);
        }
        for (String size : new String[] {"0", "65", "0xffffffffffffffff", "0x100000001"}) {
            fault(5, HEAD + "array z : 8 [@" + size + "];" + END);
        }
    }

    private static void givenMetas() {
        Works.sentence("PROGRAM: there are in_port, length, out_port of 16 bits already");
        PacketWorks x = Works.with("header h { a : 8; } use x : h;" + END);
        Works.due("size(2)", x.size(2), 3);
        for (String name : new String[] {"in_port", "length", "out_port"}) {
            fault(3, "meta @" + name + " : 16;");
            fault(3, "header @" + name + " { a : 8; }");
            fine(HEAD + "control { if " + name + " == 65535 { } } emit x;");
            fault(7, HEAD + "control { if " + name + " == @65536 { } } emit x;");
        }
        fine(HEAD + "control { out_port = 65535; } emit x;");
        fault(7, HEAD + "control { out_port = @65536; } emit x;");
    }

    private static void howManyDeclared() {
        Works.sentence("PROGRAM: at most 12 headers");
        fine(times(12, "header h# { a : 8; } ") + "use x : h11;" + END);
        fault(4, times(12, "header h# { a : 8; } ") + "header @z { a : 8; }");
        Works.sentence("PROGRAM: at most 12 instances");
        fine("header h { a : 8; } use x : h; " + times(11, "use x# : h; ") + END);
        fault(4, "header h { a : 8; } " + times(12, "use x# : h; ") + "use @z : h;");
        Works.sentence("PROGRAM: at most 16 metas (with those three)");
        fine("header h { a : 8; } use x : h; " + times(13, "meta m# : 8; ") + END);
        fault(4, times(13, "meta m# : 8; ") + "meta @z : 8;");
        Works.sentence("PROGRAM: at most 8 arrays");
        fine("header h { a : 8; } use x : h; " + times(8, "array r# : 8 [64]; ") + END);
        fault(4, times(8, "array r# : 8 [1]; ") + "array @z : 8 [1];");
        Works.sentence("PROGRAM: at most 16 actions");
        fine("header h { a : 8; } use x : h; " + times(16, "action a# () { } ") + END);
        fault(4, times(16, "action a# () { } ") + "action @z () { }");
        Works.sentence("PROGRAM: at most 8 tables");
        String table = "table t# { key 1 : exact; actions a; default a (); room 1 ways 1 stash 0; } ";
        fine(HEAD + ACTIONS + times(8, table) + END);
        fault(4, HEAD + ACTIONS + times(8, table) + "table @z { key 1 : exact;");
    }

    private static void states() {
        Works.sentence("PROGRAM: at most 16 states (also such as are only named)");
        fine(HEAD + times(16, "state s# { goto accept; } ") + END);
        fault(4, times(16, "state s# { goto accept; } ") + "state @z { goto accept; }");
        fault(4, times(15, "state s# { goto z; } ") + "state @y { goto accept; }");
        fault(4, times(15, "state s# { goto accept; } ") + "state y { goto @z; }");
        fault(4, times(14, "state s# { goto y; } ") + "state z { select 1 { 1 : @w; default : accept; } }");
        fault(4, times(14, "state s# { goto y; } ") + "state z { select 1 { 1 : accept; default : @w; } }");
        fine(HEAD + times(15, "state s# { goto z; } ") + "state z { goto accept; }" + END);
        Works.sentence("PROGRAM: not accept and reject");
        fine(HEAD + times(16, "state s# { select 1 { 1 : reject; default : accept; } } ") + END);
        Works.sentence("PROGRAM: states named may stand later");
        fine(HEAD + "state s { goto t; } state t { goto accept; }" + END);
        PacketWorks x = Works.with(HEAD + "state s { goto t; } state t { goto accept; }" + END);
        Works.due("size(4)", x.size(4), 2);
        Works.sentence("PROGRAM: accept and reject are there");
        fault(3, "state @accept { goto accept; }");
        fault(3, "state @reject { goto accept; }");
        fault(3, "meta @accept : 8;");
        fault(3, "meta @reject : 8;");
    }

    private static void extractsAndCases() {
        Works.sentence("PROGRAM: 6 extracts in a state");
        fine(HEAD + "state s { goto accept; }" + END);
        fine(HEAD + "state s { " + times(6, "extract x; ") + "goto accept; }" + END);
        fault(4, HEAD + "state s { " + times(6, "extract x; ") + "@extract x; goto accept; }");
        fine(HEAD + "state s { " + times(6, "extract x; ") + "goto t; } state t { " + times(6, "extract y; ")
                + "goto accept; }" + END);
        Works.sentence("PROGRAM: 8 cases in a state");
        fine(HEAD + "state s { select m { default : accept; } }" + END);
        fine(HEAD + "state s { select m { " + times(8, "# : accept; ") + "default : accept; } }" + END);
        fine(HEAD + "state s { select m { " + times(8, "# & # : accept; ") + "default : accept; } }" + END);
        fault(4, HEAD + "state s { select m { " + times(8, "# : accept; ") + "@8 : accept; default : accept; } }");
        fault(4, HEAD + "state s { select m { " + times(8, "# : accept; ") + "@256 & 1 : nothing");
        fault(1, HEAD + "state s { select m { 1 : accept; @} }");
        fault(1, HEAD + "state s { select m { default : accept; @default : accept; } }");
    }

    private static void actions() {
        Works.sentence("PROGRAM: none to 4 PARAMETERS");
        fine(HEAD + "action f () { }" + END);
        fine(HEAD + "action f (p : 1) { }" + END);
        fine(HEAD + "action f (p : 1, s : 2, t : 3, u : 64) { m = p ++ s ++ t ++ u[1:0]; }" + END);
        fault(4, HEAD + "action f (p : 1, s : 2, t : 3, u : 4, @v : 5) { }");
        fault(1, HEAD + "action f (p : 1, @) { }");
        Works.sentence("PROGRAM: 12 statements in an action");
        fine(HEAD + "action f () { " + times(12, "drop; ") + "}" + END);
        fine(HEAD + times(16, "action f# () {" + times(12, "drop;") + "}") + "control {" + times(48, "drop;") + "} emit x;");
        for (String last : new String[] {"m = n1 + 1;", "store r [m + 1] m;", "load m r [m];", "add x;", "take y;", "n1 = 7;"}) {
            fine(HEAD + "meta n1 : 8; " + times(16, "action f# () {" + times(11, "drop;") + last + "}") + "control {"
                    + times(47, "drop;") + last + "} emit x;");
        }
        fault(4, HEAD + "action f () { " + times(12, "drop; ") + "@drop; }");
        fault(4, HEAD + "action f () { " + times(12, "drop; ") + "@add x; }");
        fault(4, HEAD + "action f () { " + times(12, "drop; ") + "@m = 1; }");
        fault(4, HEAD + "action f () { " + times(12, "drop; ") + "@load m r [0]; }");
        fault(4, HEAD + "action f () { " + times(12, "drop; ") + "@store r [0] 1; }");
        fault(4, HEAD + "action f () { " + times(12, "drop; ") + "@take x; }");
    }

    private static void keysAndListedActions() {
        Works.sentence("PROGRAM: 1 to 4 keys");
        String rest = "actions a; default a (); room 1 ways 1 stash 0; }";
        fault(1, HEAD + ACTIONS + "table t { @" + rest);
        for (int keys = 1; keys <= 4; keys++) {
            fine(HEAD + ACTIONS + "table t { " + times(keys, "key q : exact; ") + rest + END);
        }
        fault(4, HEAD + ACTIONS + "table t { " + times(4, "key q : exact; ") + "@key q : exact; " + rest);
        fault(4, HEAD + ACTIONS + "table t { " + times(4, "key q : masked; ") + "@key");
        Works.sentence("PROGRAM: 1 to 8 actions (each once)");
        String many = times(9, "action a# () { } ");
        fault(1, HEAD + many + "table t { key m : exact; actions @;");
        String eight = "table t { key m : exact; actions a0, a1, a2, a3, a4, a5, a6, a7";
        fine(HEAD + many + "table t { key m : exact; actions a8; default a0 (); room 1 ways 1 stash 0; }" + END);
        fine(HEAD + many + eight + "; default a8 (); room 1 ways 1 stash 0; }" + END);
        fault(4, HEAD + many + eight + ", @a8;");
        fault(8, HEAD + many + "table t { key m : exact; actions a0, @a0;");
        fault(8, HEAD + many + "table t { key m : exact; actions a0, a1, a2, a3, a4, a5, a6, @a0;");
    }

    private static void roomOfExactKeys() {
        String start = HEAD + ACTIONS + "table t { key m : exact; key o : exact; actions a; default a (); room ";
        Works.sentence("PROGRAM: if all are exact: N BUCKETS (1, 2, 4, 8, 16)");
        for (int n = 0; n <= 33; n++) {
            if (n == 1 || n == 2 || n == 4 || n == 8 || n == 16) {
                fine(start + n + " ways 1 stash 0; }" + END);
            } else {
                fault(5, start + "@" + n + " ways 1 stash 0; }" + END);
            }
        }
        for (String n : new String[] {"64", "0x100000001", "0x100000000", "0x8000000000000000", "0xffffffffffffffff"}) {
            fault(5, start + "@" + n + " ways 1 stash 0; }" + END);
        }
        Works.sentence("PROGRAM: W 1 .. 4");
        for (int w = 1; w <= 4; w++) {
            fine(start + "16 ways " + w + " stash 8; }" + END);
        }
        for (String w : new String[] {"0", "5", "8", "0x8000000000000001", "0x100000001"}) {
            fault(5, start + "1 ways @" + w + " stash 0; }" + END);
        }
        Works.sentence("PROGRAM: S 0 .. 8");
        for (int s = 0; s <= 8; s++) {
            fine(start + "1 ways 1 stash " + s + "; }" + END);
        }
        for (String s : new String[] {"9", "16", "0x8000000000000000", "0xffffffffffffffff", "0x100000000"}) {
            fault(5, start + "1 ways 1 stash @" + s + "; }" + END);
        }
        fault(1, start + "1@; }");
        fault(1, start + "1 ways 1@; }");
        fault(1, start + "1 @stash 1 ways 1; }");
    }

    private static void roomOfOtherKeys() {
        Works.sentence("PROGRAM: else room N, 1 .. 32");
        for (String keys : new String[] {"key m : prefix;", "key m : masked;", "key m : exact; key m : prefix;",
            "key m : masked; key m : exact;"}) {
            String start = HEAD + ACTIONS + "table t { " + keys + " actions a; default a (); room ";
            for (int n : new int[] {1, 2, 3, 17, 31, 32}) {
                fine(start + n + "; }" + END);
            }
            for (String n : new String[] {"0", "33", "64", "0x100000001", "0xffffffffffffffff"}) {
                fault(5, start + "@" + n + "; }" + END);
            }
            fault(1, start + "4 @ways 1 stash 0; }");
        }
    }

    private static void steps() {
        Works.sentence("PROGRAM: 48 STEPS (statements, ifs, applies) in the control");
        String tables = ACTIONS + times(2, "table t# { key 1 : exact; actions a; default a (); room 1 ways 1 stash 0; } ");
        fine(HEAD + "control { } emit x;");
        fine(HEAD + "control { " + times(48, "drop; ") + "} emit x;");
        fine(HEAD + tables + "control { apply t0; if o { " + times(45, "drop; ") + "} else { apply t1; } } emit x;");
        fine(HEAD + "control { " + times(48, "if o { } else { } ") + "} emit x;");
        String full = HEAD + tables + "control { apply t0; if o { " + times(46, "drop; ");
        fault(4, full + "@drop; } } emit x;");
        fault(4, full + "@apply t1; } } emit x;");
        fault(4, full + "@if o { } } } emit x;");
        fault(4, full + "} else { @m = 1; } } emit x;");
        fault(4, full + "} @add x; } emit x;");
        PacketWorks x = Works.with(full + "} } emit x;");
        Works.due("size(7)", x.size(7), 48);
    }

    private static void blocks() {
        Works.sentence("PROGRAM: 8 blocks in one another (the control's is the first)");
        fine(HEAD + "control { " + times(7, "if o { ") + "drop; " + times(7, "} ") + "} emit x;");
        fault(4, HEAD + "control { " + times(7, "if o { ") + "if o @{ drop; } " + times(7, "} ") + "} emit x;");
        fine(HEAD + "control { " + times(6, "if o { ") + "if o { } else { } " + times(6, "} ") + "} emit x;");
        fine(HEAD + "control { " + times(7, "if o { } else { ") + times(7, "} ") + "} emit x;");
        fault(4, HEAD + "control { " + times(7, "if o { } else { ") + "if o @{ } " + times(7, "} ") + "} emit x;");
        fine(HEAD + "control { " + times(16, "if o { if o { } } else { if o { } } ") + "} emit x;");
    }

    private static void whatIsEmitted() {
        Works.sentence("PROGRAM: emit NAME , .. ; of instances, one at least, each once");
        fault(1, HEAD + "control { } emit @;");
        fault(1, HEAD + "control { } emit x, @;");
        fault(1, HEAD + "control { } emit x @y;");
        fault(8, HEAD + "control { } emit x, @x;");
        fault(8, HEAD + "control { } emit x, y, @x;");
        fault(6, HEAD + "control { } emit x, @h;");
        fine(HEAD + "control { } emit y;");
        fine("header h { a : 8; } " + times(12, "use x# : h; ") + "control { } emit " + times(11, "x#, ") + "x11;");
        fault(8, "header h { a : 8; } " + times(12, "use x# : h; ") + "control { } emit " + times(12, "x#, ") + "@x0;");
    }

    private static void places() {
        Works.sentence("PROGRAM: PLACE NAME . NAME, or NAME of a META (not in_port, length: 6 at it)");
        for (String name : new String[] {"in_port", "length"}) {
            fault(6, HEAD + "control { @" + name + " = 1; } emit x;");
            fault(6, HEAD + "array w : 16 [1]; control { load @" + name + " w [0]; } emit x;");
            fault(6, HEAD + "action f () { @" + name + " = 1; }");
            fault(6, HEAD + "action f (" + name + " : 16) { @" + name + " = 1; }");
            fine(HEAD + "control { out_port = " + name + "; } emit x;");
        }
        fine(HEAD + "array w : 16 [1]; control { load out_port w [0]; } emit x;");
        fault(1, HEAD + "control { x @= 1; } emit x;");
        fault(1, HEAD + "control { m = x@; } emit x;");
        fault(1, HEAD + "control { m @.a = 1; } emit x;");
        fault(1, HEAD + "control { m = m@.a; } emit x;");
        Works.sentence("PROGRAM: a PARAMETER of a name is ahead of a META or an INSTANCE of it");
        fine(HEAD + "action f (m : 4, x : 1) { y.a = m ++ m; o = x; }" + END);
        fault(7, HEAD + "action f (m : 4, x : 1) { y.a = @m; }");
        Works.sentence("PROGRAM: Behind a PARAMETER no . can stand");
        fault(1, HEAD + "action f (x : 8) { m = x@.a; }");
        fault(1, HEAD + "action f (p : 8) { m = p@.a; }");
        Works.sentence("PROGRAM: a PLACE that is written to is never a PARAMETER");
        fine(HEAD + "action f (m : 4, x : 1) { m = 255; x.a = 255; }" + END);
        fault(6, HEAD + "action f (p : 8) { @p = 1; }");
        fault(6, HEAD + "action f (p : 8) { load @p r [0]; }");
    }

    private static void allAtOnce() {
        Works.sentence("PROGRAM: all that there may be, at once, each known by its name");
        String metas = times(13, "meta m#:8;");
        String headers = times(12, "header h#{a:8;}") + times(12, "use x#:h#;");
        String arrays = times(8, "array r#:8[1];");
        String actions = times(16, "action a#(){drop;}");
        String states = times(15, "state s#{goto accept;}") + "state s15{goto s14;}";
        String table = "{key m12:exact;actions a15;default a14();room 1 ways 1 stash 0;}";
        String[] orders = {headers + metas + arrays + actions + states, states + metas + arrays + headers + actions,
            actions + states + headers + metas + arrays};
        for (String order : orders) {
            String all = order + times(8, "table t#" + table) + "control{apply t7;";
            fine(all + "apply t0;add x11;m12=m0;load m0 r7[0];}emit x11,x0;");
            fault(8, all + "apply @t7;}emit x11;");
            fault(4, order + times(8, "table t#" + table) + "table @t7" + table);
            fault(6, all + "add @h11;}");
            fault(6, all + "m0=@a15;}");
            fault(6, all + "m0=@s15;}");
            fault(6, all + "m0=@t7;}");
            fault(6, all + "m0=@r7;}");
        }
        for (String name : new String[] {"h11", "x11", "m12", "r7", "a15", "s15"}) {
            fault(3, orders[0] + "table @" + name + table);
        }
    }
}
