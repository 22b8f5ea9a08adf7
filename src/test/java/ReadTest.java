/** Promises 4 to 6: read, fault, size. */
public final class ReadTest {
    private static final String SMALL = "header h { a : 8; b : 16; } use x : h; ";

    public static void main(String[] args) {
        countsNodes();
        sizes();
        readBeginsAnew();
        readThatThrows();
        limitsThatHold();
        Works.done();
    }

    private static void nodes(int want, String text) {
        PacketWorks x = new PacketWorks();
        Works.put(x, text);
        Works.due("read() of " + text, x.read(), want);
        Works.due("fault(0) of " + text, x.fault(0), 0);
        Works.due("fault(1) of " + text, x.fault(1), -1);
        Works.due("fault(2) of " + text, x.fault(2), -1);
        Works.due("fault(-1) of " + text, x.fault(-1), -1);
        Works.due("the tape is empty", x.end(0), 0);
    }

    private static void control(int want, String block) {
        nodes(want, SMALL + "meta m : 8; meta o : 1; meta q : 64; array r : 8 [4]; control {" + block + "} emit x;");
    }

    private static void countsNodes() {
        control(0, "");
        control(1, "m = 255;");
        control(1, "m = ((x.a));");
        control(2, "m = -m;");
        control(2, "m = x.b[8:1];");
        control(2, "m = 7 as 8;");
        control(3, "m = x.a + 1;");
        control(4, "m = o ? 1 : m;");
        control(1, "if valid x { } else { }");
        control(1, "load x.a r [9];");
        control(3, "store r [m] m[7:0];");
        control(0, "add x; take x; drop;");
        control(6, "if o || !o && valid x { }");
        control(3, "q=1+2;");
        control(6, "m=~-(1 as 8)as 8[7:0];");
        control(5, "o=0x00ff==1<<1;");
        control(10, "o = 1 < 2 ? o : o ? 1 : 0 as 1;");
        nodes(3, SMALL + "state s { select x.a { 1 : accept; 2 & 3 : s2; default : reject; } } state s2 { goto accept; }"
                + " action a (p : 8) { x.a = p; } table t { key 5 : exact; actions a; default a (9);"
                + " room 16 ways 4 stash 8; } control { apply t; } emit x;");
    }

    private static void sizes() {
        PacketWorks x = Works.with("header h { a : 8; b : 16; } header g { c : 64; } header unused { d : 8; }"
                + " use x : h; use y : h; use z : g; meta m : 8; meta n : 1; array r : 8 [4];"
                + " state s { goto t; } state t { goto accept; } action a () { drop; } action b () { drop; drop; }"
                + " action c () { } table ta { key m : exact; actions a; default b (); room 1 ways 1 stash 0; }"
                + " table tb { key m : masked; actions a; default b (); room 32; }"
                + " control { if valid x { apply ta; if n { drop; } else { drop; } } n = 1; } emit x;");
        int[] want = {3, 3, 5, 1, 2, 3, 2, 6, 24 + 24 + 64};
        for (int what = 0; what < want.length; what++) {
            Works.due("size(" + what + ")", x.size(what), want[what]);
        }
        Works.due("size(-1)", x.size(-1), -1);
        Works.due("size(9)", x.size(9), -1);
    }

    private static void readBeginsAnew() {
        PacketWorks x = Works.laid(SMALL + "array r : 8 [2]; action a () { } table t { key length : exact; actions a;"
                + " default a (); room 1 ways 1 stash 0; } control { store r [0] 7; apply t; } emit x;");
        x.key(0, 3, -1);
        x.entry(0, 0, 0, 0);
        x.packet(0);
        x.run(5);
        Works.due("word(0, 0)", x.word(0, 0), 7);
        Works.due("entries(0, 0)", x.entries(0, 0), 1);
        x.packet(0);
        x.packet(0);
        x.run(1);
        Works.put(x, SMALL + "array r : 8 [2]; action a () { } table t { key length : exact; actions a;"
                + " default a (); room 1 ways 1 stash 0; } control { apply t; } emit x;");
        Works.due("read()", x.read(), 1);
        int[] sizes = {1, 1, 3, 1, 0, 1, 1, 1, 24};
        for (int what = 0; what < sizes.length; what++) {
            Works.due("size(" + what + ") behind read()", x.size(what), sizes[what]);
        }
        for (int what = 0; what <= 5; what++) {
            Works.due("count(" + what + ") behind read()", x.count(what), 0);
        }
        Works.due("out(0, 0)", x.out(0, 0), -1);
        Works.due("step(0, 1)", x.step(0, 1), -1);
        Works.due("word(0, 0)", x.word(0, 0), 0);
        Works.due("entries(0, 0) ahead of lay()", x.entries(0, 0), 0);
        Works.dueThrow("run()", IllegalStateException.class, () -> x.run(1));
        x.lay(1, 1000, 1000);
        Works.due("word(0, 0)", x.word(0, 0), 0);
        Works.due("entries(0, 0)", x.entries(0, 0), 0);
        Works.due("the first operation, with the key() of before", x.entry(0, 0, 0, 0), 0);
        x.run(2);
        Works.due("out(0, 1)", x.out(0, 1), 0);
    }

    private static void readThatThrows() {
        PacketWorks x = Works.laid(SMALL + "control { drop; } emit x;");
        x.packet(0);
        x.run(1);
        Works.dueThrow("read() of an empty tape", IllegalArgumentException.class, x::read);
        Works.due("fault(0)", x.fault(0), 1);
        Works.due("fault(1)", x.fault(1), 0);
        Works.due("size(7)", x.size(7), -1);
        Works.due("step(0, 0)", x.step(0, 0), -1);
        Works.due("stage(0, 0)", x.stage(0, 0), -1);
        Works.due("word(0, 0)", x.word(0, 0), 0);
        Works.due("entries(0, 0)", x.entries(0, 0), -1);
        for (int what = 0; what <= 5; what++) {
            Works.due("count(" + what + ")", x.count(what), 0);
        }
        Works.dueThrow("lay()", IllegalStateException.class, () -> x.lay(1, 1, 1));
        Works.dueThrow("run()", IllegalStateException.class, () -> x.run(1));
        Works.put(x, "header h { a : 8 }");
        Works.dueThrow("read()", IllegalArgumentException.class, x::read);
        Works.due("the tape is empty behind it", x.end(0), 0);
        Works.due("fault(1)", x.fault(1), 17);
        Works.put(x, SMALL + "meta q : 64; control { q = 1" + Works.times(400, "+1") + "; } emit x;");
        Works.dueThrow("read() of too many nodes", IllegalArgumentException.class, x::read);
        Works.put(x, SMALL + "meta abcdefghijklmnop : 8; control { header");
        Works.dueThrow("read()", IllegalArgumentException.class, x::read);
        Works.put(x, "meta abcdefghijklmnop");
        Works.dueThrow("read()", IllegalArgumentException.class, x::read);
        Works.put(x, SMALL + "state s { goto accept; } control { if in_port == length { } } emit x;");
        Works.due("read()", x.read(), 3);
        Works.put(x, SMALL + "control { } emit x;");
        Works.due("read()", x.read(), 0);
        Works.due("fault(0)", x.fault(0), 0);
        Works.due("fault(1)", x.fault(1), -1);
    }

    /** All that may be there at most is there, and nothing is a fault. */
    private static void limitsThatHold() {
        nodes(0, "header h { " + Works.times(16, "f# : 32; ") + "} use x : h; control { } emit x;");
        nodes(0, Works.times(12, "header h# { a : 8; } ") + Works.times(12, "use x# : h#; ")
                + Works.times(13, "meta m# : 64; ") + Works.times(8, "array r# : 64 [64]; ")
                + Works.times(16, "state s# { goto accept; } ") + Works.times(16, "action a# () { } ")
                + "control { } emit " + Works.times(11, "x#, ") + "x11;");
        nodes(8, SMALL + Works.times(7, "action a# () { } ") + "action a7 (p : 1, q : 64, r : 8, s : 9) { "
                + Works.times(12, "drop; ") + "} " + Works.times(2, "table t# { key 1 : exact; key 2 : masked;"
                + " key 3 : masked; key 4 : exact; actions a0, a1, a2, a3, a4, a5, a6, a7;"
                + " default a7 (1, 0xffffffffffffffff, 255, 511); room 32; } ") + "control { } emit x;");
        nodes(6, SMALL + "state s { " + Works.times(6, "extract x; ") + "select 1 { " + Works.times(8, "0 & # : accept; ")
                + "default : s; } } control { if 1 { if 1 { if 1 { if 1 { if 1 { " + Works.times(43, "drop; ")
                + "} } } } } } emit x;");
        nodes(7, SMALL + "control { " + Works.times(7, "if 1 { ") + Works.times(7, "} else { } ") + "} emit x;");
        nodes(800, SMALL + "meta q : 64; meta o : 1; control { o = o; q = 1" + Works.times(399, "+1") + "; } emit x;");
        nodes(1, SMALL + "control { x.a = " + Works.times(23, "(") + "1" + Works.times(23, ")") + "; } emit x;");
        nodes(24, SMALL + "control { x.a = " + Works.times(23, "~") + "x.a; } emit x;");
        nodes(70, SMALL + "meta o : 1; control { o = " + Works.times(23, "o?o:") + "o; } emit x;");
        nodes(0, SMALL + "meta abcdefghijklmn_9 : 0x0000000000000040; control { } emit x;\n");
    }
}
