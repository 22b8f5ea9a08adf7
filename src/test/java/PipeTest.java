/** Promises 11, 15 to 19 and 21 with the term THE LINE: packet, run, out, byteAt, did, word, count. */
public final class PipeTest {
    private static final String HEAD = "header h { a : 8; } header g { b : 4; c : 12; } use x : h; use y : g; meta m : 8;"
            + " array r : 16 [3]; ";
    public static void main(String[] args) {
        whatPacketThrows();
        cyclesAndCounts();
        whatIsRead();
        whatGoesOut();
        whatStepsDid();
        theLatest64();
        kindsByTurns();
        entriesOnTheWay();
        tablesWithoutApply();
        arraysInOneStage();
        Works.done();
    }

    private static void whatPacketThrows() {
        PacketWorks x = Works.with(HEAD + "control { } emit x;");
        Works.put(x, new byte[129]);
        Works.dueThrow("not laid", IllegalStateException.class, () -> x.packet(0));
        Works.dueThrow("run", IllegalStateException.class, () -> x.run(-1));
        x.lay(1, 0, 0);
        Works.dueThrow("129 bytes", IllegalArgumentException.class, () -> x.packet(0));
        Works.due("the tape stays", x.end(0), 129);
        Works.due("count(0)", x.count(0), 0);
        Works.dueThrow("read()", IllegalArgumentException.class, x::read);
        PacketWorks y = Works.laid(HEAD + "control { } emit x;");
        Works.due("128 bytes", Works.send(y, 0, new int[128]), 0);
        Works.due("no bytes", y.packet(0), 1);
        for (int i = 2; i < 40; i++) {
            Works.due("packet", y.packet(i), i);
        }
        Works.put(y, new byte[129]);
        Works.dueThrow("40 in line", IllegalStateException.class, () -> y.packet(0));
        Works.due("the tape stays", y.end(0), 129);
        Works.due("count(1)", y.count(1), 40);
        Works.dueThrow("run(-1)", IllegalArgumentException.class, () -> y.run(-1));
        Works.dueThrow("run(101)", IllegalArgumentException.class, () -> y.run(101));
        Works.due("run(0)", y.run(0), 0);
        Works.due("run(100)", y.run(100), 40);
        Works.due("cycles", y.count(4), 100);
    }

    private static void counts(PacketWorks x, int... want) {
        for (int what = 0; what < want.length; what++) {
            Works.due("count(" + what + ")", x.count(what), want[what]);
        }
        Works.due("count(6)", x.count(6), -1);
        Works.due("count(-1)", x.count(-1), -1);
    }

    private static void cyclesAndCounts() {
        PacketWorks x = Works.laid(HEAD + "control { m = m + 1; m = m + 1; m = m + 1; } emit x;");
        counts(x, 0, 0, 0, 0, 0, 3);
        x.packet(0);
        x.packet(0);
        counts(x, 2, 2, 0, 0, 0, 3);
        Works.due("run(1)", x.run(1), 0);
        counts(x, 2, 1, 1, 0, 1, 3);
        Works.due("run(1)", x.run(1), 0);
        Works.due("run(1)", x.run(1), 0);
        counts(x, 2, 0, 2, 0, 3, 3);
        Works.due("out(0, 0) ahead of it", x.out(0, 0), -1);
        Works.due("run(1)", x.run(1), 1);
        counts(x, 2, 0, 1, 1, 4, 3);
        Works.due("out(0, 4)", x.out(0, 4), 3);
        Works.due("out(1, 4)", x.out(1, 4), -1);
        x.run(3);
        x.packet(0);
        Works.due("run(4)", x.run(4), 1);
        counts(x, 3, 0, 0, 3, 11, 3);
        Works.due("out(1, 4)", x.out(1, 4), 4);
        Works.due("out(2, 4)", x.out(2, 4), 10);
    }

    private static void whatIsRead() {
        PacketWorks x = Works.laid(HEAD + "state s { extract x; select x.a { 1 : t; 2 & 0xfe : accept; 9 : again;"
                + " 4 & 0 : reject; default : accept; } } state t { extract y; goto accept; }"
                + " state again { extract y; extract x; goto accept; }"
                + " control { out_port = in_port; m = length[7:0]; x.a = x.a + y.b as 8 + m; } emit y, x;");
        int both = Works.send(x, 0x12345, 1, 0x23, 0x45, 0x66, 0x77);
        int first = Works.send(x, -1, 3, 0x23, 0x45);
        int rejected = Works.send(x, 0, 8, 0x23, 0x45);
        int tooShort = Works.send(x, 0, 1, 0x23);
        int twice = Works.send(x, 0, 9, 0x23, 0x45, 0x66);
        int empty = Works.send(x, 0);
        int justEnough = Works.send(x, 7, 1, 0xff, 0xff);
        x.run(20);
        Works.dueBytes("y ahead of x, then the payload", x, both, "2345" + "08" + "6677");
        Works.due("in_port's lowest 16 bits", x.out(both, 2), 0x2345);
        Works.dueBytes("y is not valid", x, first, "06" + "2345");
        Works.due("in_port", x.out(first, 2), 0xffff);
        Works.dueBytes("all is extracted", x, justEnough, "ffff" + "13");
        for (int n : new int[] {rejected, tooShort, twice, empty}) {
            Works.due("REJECTed", x.out(n, 1), 2);
            Works.due("its out_port", x.out(n, 2), -1);
            Works.due("its bytes", x.out(n, 3), -1);
            Works.due("a byte", x.byteAt(n, 0), -1);
            Works.due("a step", x.did(n, 0), -1);
        }
        PacketWorks several = Works.laid(HEAD + "use z : h; state s { goto t; } state t { extract y; extract z; extract x;"
                + " goto accept; } control { } emit x, y, z;");
        int three = Works.send(several, 0, 1, 2, 3, 4, 5);
        several.run(2);
        Works.dueBytes("several extracts in their order", several, three, "0401020305");
        PacketWorks plain = Works.laid(HEAD + "control { if valid x { drop; } } emit x;");
        int n = Works.send(plain, 0, 1, 2, 3);
        plain.run(9);
        Works.dueBytes("without a state all is payload", plain, n, "010203");
    }

    private static void whatGoesOut() {
        PacketWorks x = Works.laid(HEAD + "state s { extract x; goto accept; } control { if x.a == 1 { drop; out_port = 5; }"
                + " if x.a == 2 { add y; y.c = 0xabc; take x; x.a = 7; } if x.a == 3 { add y; y.b = 15; } } emit x, y;");
        int dropped = Works.send(x, 0, 1, 9);
        int added = Works.send(x, 0, 2, 9);
        int kept = Works.send(x, 0, 3, 9);
        int none = Works.send(x, 0, 4);
        x.run(20);
        Works.due("a packet", x.out(dropped, 0), 0);
        Works.due("DROPPED", x.out(dropped, 1), 1);
        Works.due("its out_port", x.out(dropped, 2), -1);
        Works.due("its bytes", x.out(dropped, 3), -1);
        Works.due("a byte", x.byteAt(dropped, 0), -1);
        Works.due("the steps behind are done all the same", x.did(dropped, 2), 0);
        Works.dueBytes("fields of one taken stay 0", x, added, "0abc09");
        Works.due("out(2)", x.out(added, 2), 0);
        Works.dueBytes("as emit tells", x, kept, "03f00009");
        Works.due("out(3)", x.out(kept, 3), 4);
        Works.due("byteAt(3)", x.byteAt(kept, 3), 9);
        Works.due("byteAt(4)", x.byteAt(kept, 4), -1);
        Works.due("byteAt(-1)", x.byteAt(kept, -1), -1);
        Works.due("0 .. 255", x.byteAt(kept, 1), 0xf0);
        Works.dueBytes("as it came", x, none, "04");
        Works.due("out(5)", x.out(kept, 5), -1);
        Works.due("out(-1)", x.out(kept, -1), -1);
        Works.due("none such", x.out(4, 0), -1);
        Works.due("none such", x.out(-1, 0), -1);
        Works.due("none such", x.byteAt(4, 0), -1);
        Works.due("none such", x.did(4, 0), -1);
    }

    private static void whatStepsDid() {
        PacketWorks x = Works.laid(HEAD + "state s { extract x; goto accept; } action no () { } action yes () { drop; }"
                + " table t { key x.a : exact; actions yes; default no (); room 1 ways 1 stash 0; }"
                + " control { if x.a[0:0] { if x.a[1:1] { m = 1; } else { m = 2; } } else { apply t; } } emit x;");
        x.key(0, 2, -1);
        int entry = x.entry(0, 0, 0, 1);
        int three = Works.send(x, 0, 3);
        int one = Works.send(x, 0, 1);
        int two = Works.send(x, 0, 2);
        int four = Works.send(x, 0, 4);
        x.run(20);
        int[][] want = {{1, 1, 0, -1, -1}, {1, 0, -1, 0, -1}, {0, -1, -1, -1, 1}, {0, -1, -1, -1, 0}};
        int[] packets = {three, one, two, four};
        for (int p = 0; p < packets.length; p++) {
            for (int step = 0; step < 5; step++) {
                Works.due("did(" + packets[p] + ", " + step + ")", x.did(packets[p], step), want[p][step]);
            }
            Works.due("did(.., 5)", x.did(packets[p], 5), -1);
            Works.due("did(.., -1)", x.did(packets[p], -1), -1);
        }
        Works.due("of one DROPPED", x.out(two, 1), 1);
        Works.due("an entry has no steps", x.did(entry, 0), -1);
        Works.due("an entry has no bytes", x.byteAt(entry, 0), -1);
    }

    private static void theLatest64() {
        PacketWorks x = Works.laid(HEAD + "state s { extract x; goto accept; } control { out_port = x.a as 16; } emit x;");
        for (int i = 0; i < 99; i++) {
            Works.due("packet", Works.send(x, 0, i), i);
            if (i % 33 == 32) {
                x.run(34);
            }
        }
        for (int n = 33; n < 38; n++) {
            int want = n > 98 - 64 ? n : -1;
            Works.due("out(" + n + ", 2)", x.out(n, 2), want);
            Works.due("byteAt(" + n + ", 0)", x.byteAt(n, 0), want);
            Works.due("did(" + n + ", 0)", x.did(n, 0), want == -1 ? -1 : 0);
        }
        for (int n = 38; n < 99; n += 4) {
            Works.due("out(" + n + ", 2)", x.out(n, 2), n);
            Works.due("byteAt(" + n + ", 0)", x.byteAt(n, 0), n);
        }
    }

    /** Operations of both kinds come by turns, so that each kind takes the place that another one had long before. */
    private static void kindsByTurns() {
        PacketWorks x = Works.laid(HEAD + "action no () { } table t { key m : exact; actions no; default no ();"
                + " room 1 ways 1 stash 0; } table u { key m : exact; actions no; default no (); room 16 ways 4 stash 8; }"
                + " control { apply u; } emit x;");
        for (int i = 0; i < 50; i++) {
            boolean packet = i % 7 < 3;
            x.key(0, i, -1);
            int n = packet ? Works.send(x, 0, i) : x.entry(0, i % 2, 0, 0);
            x.run(2);
            Works.due("number", n, i);
            Works.due("out(" + n + ", 0)", x.out(n, 0), packet ? 0 : 1);
            Works.due("byteAt(" + n + ", 0)", x.byteAt(n, 0), packet ? i & 255 : -1);
            Works.due("did(" + n + ", 0)", x.did(n, 0), packet ? 0 : -1);
        }
        Works.due("entries(0, 0)", x.entries(0, 0), 1);
        Works.due("entries of the other table", x.entries(1, 0), 14);
    }

    private static void entriesOnTheWay() {
        PacketWorks x = Works.laid(HEAD + "state s { extract x; goto accept; } action set (p : 16) { out_port = p; }"
                + " table t { key m : exact; actions set; default set (1); room 1 ways 4 stash 0; }"
                + " control { m = x.a; apply t; } emit x;");
        x.key(0, 5, -1);
        x.datum(0, 2);
        int before = Works.send(x, 0, 5);
        int comes = x.entry(0, 0, 0, 0);
        int between = Works.send(x, 0, 5);
        x.datum(0, 3);
        int changes = x.entry(1, 0, 0, 0);
        int behind = Works.send(x, 0, 5);
        int goes = x.entry(2, 0, 0, 0);
        int last = Works.send(x, 0, 5);
        Works.due("run", x.run(9), 7);
        int[] packets = {before, between, behind, last};
        int[] want = {1, 2, 3, 1};
        for (int i = 0; i < packets.length; i++) {
            Works.due("out(" + packets[i] + ", 2)", x.out(packets[i], 2), want[i]);
        }
        int[] entries = {comes, changes, goes};
        for (int i = 0; i < entries.length; i++) {
            Works.due("kind", x.out(entries[i], 0), i + 1);
            Works.due("not refused", x.out(entries[i], 1), 0);
            Works.due("cycle", x.out(entries[i], 4), entries[i] + 2);
        }
    }

    private static void tablesWithoutApply() {
        PacketWorks x = Works.laid(HEAD + "action no () { } table t { key m : exact; actions no; default no ();"
                + " room 1 ways 4 stash 0; } control { m = m + 1; m = m + 1; } emit x;");
        x.key(0, 5, -1);
        int n = x.entry(0, 0, 0, 0);
        x.run(3);
        Works.due("it came", x.out(n, 1), 0);
        Works.due("entries", x.entries(0, 0), 1);
    }

    private static void arraysInOneStage() {
        PacketWorks x = Works.laid(HEAD + "array w : 64 [2]; meta q : 64; state s { extract x; goto accept; }"
                + " control { if x.a == 0xff { out_port = 1; } load out_port r [x.a];"
                + " store r [x.a + 1] (x.a as 16) << 4; store w [0xfffffffffffffffe] ~0; } emit x;");
        Works.due("word ahead of all", x.word(0, 0), 0);
        int[] ports = new int[4];
        for (int i = 0; i < 4; i++) {
            ports[i] = Works.send(x, 0, i + 3);
        }
        Works.due("in line alone", x.word(0, 0), 0);
        x.run(1);
        Works.dueThrow("in a stage", IllegalStateException.class, () -> x.word(0, 0));
        Works.dueThrow("in a stage, none such", IllegalStateException.class, () -> x.word(-1, 99));
        x.run(8);
        Works.due("nothing was there", x.out(ports[0], 2), 0);
        Works.due("what the one ahead stored", x.out(ports[1], 2), 0x30);
        Works.due("what the one ahead stored", x.out(ports[2], 2), 0x40);
        Works.due("index modulo size", x.out(ports[3], 2), 0x50);
        Works.due("word(0, 0)", x.word(0, 0), 0x50);
        Works.due("word(0, 1)", x.word(0, 1), 0x60);
        Works.due("word(0, 2)", x.word(0, 2), 0x40);
        Works.due("word(0, 3)", x.word(0, 3), 0);
        Works.due("word(0, -1)", x.word(0, -1), 0);
        Works.due("word(1, 0): 64 bits, an index without sign", x.word(1, 0), -1);
        Works.due("word(1, 1)", x.word(1, 1), 0);
        Works.due("word(2, 0)", x.word(2, 0), 0);
        Works.due("word(-1, 0)", x.word(-1, 0), 0);
    }
}
