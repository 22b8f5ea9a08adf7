/** Promises 12 to 14 and 20 with the term ENTRIES: key, datum, entry, entries; and what matches. */
public final class EntryTest {
    private static final String HEAD = "header h { a : 8; b : 8; } use x : h; state s { extract x; goto accept; }"
            + " action one (p : 4, q : 64) { out_port = p as 16; x.b = q[7:0]; } action two () { out_port = 222; }"
            + " action other () { out_port = 333; } ";
    private static final int COME = 0;
    private static final int CHANGE = 1;
    private static final int GO = 2;

    public static void main(String[] args) {
        rowsOfKeysAndData();
        whatIsThrown();
        exactKeys();
        prefixes();
        maskedKeys();
        refusals();
        changeKeepsPriorityAndTurn();
        buckets();
        rooms();
        entriesAnswers();
        Works.done();
    }

    private static PacketWorks table(String keys, String room) {
        return Works.laid(HEAD + "table t { " + keys + " actions one, two; default other (); room " + room
                + "; } control { apply t; } emit x;");
    }

    /** An operation on the only table, run through: 0 or 1 if it was REFUSED. */
    private static int entry(PacketWorks x, int kind, int priority, int action) {
        int n = x.entry(kind, 0, priority, action);
        x.run(3);
        Works.due("out(n, 0)", x.out(n, 0), kind + 1);
        Works.due("out(n, 2)", x.out(n, 2), -1);
        Works.due("out(n, 3)", x.out(n, 3), -1);
        return x.out(n, 1);
    }

    private static int port(PacketWorks x, int a, int b) {
        int n = Works.send(x, 0, a, b);
        x.run(3);
        return x.out(n, 2);
    }

    private static void rowsOfKeysAndData() {
        PacketWorks x = table("key x.a : exact; key x.b : exact;", "1 ways 4 stash 0");
        Works.dueThrow("key(-1)", IndexOutOfBoundsException.class, () -> x.key(-1, 0, 0));
        Works.dueThrow("key(4)", IndexOutOfBoundsException.class, () -> x.key(4, 0, 0));
        Works.dueThrow("datum(-1)", IndexOutOfBoundsException.class, () -> x.datum(-1, 0));
        Works.dueThrow("datum(4)", IndexOutOfBoundsException.class, () -> x.datum(4, 0));
        Works.due("masks are 0 at first", entry(x, COME, 0, 0), 1);
        x.key(0, 1, 255);
        x.key(1, 0x1ff, -1);
        x.key(3, 9, 9);
        Works.due("entry", entry(x, COME, 0, 0), 0);
        Works.due("data are 0 at first", port(x, 1, 255), 0);
        x.key(1, 2, -1);
        x.datum(0, 0xff7);
        x.datum(1, 0x1234);
        Works.due("the first key stays", entry(x, COME, 0, 0), 0);
        int n = Works.send(x, 0, 1, 2);
        x.run(3);
        Works.due("a datum is cut to its parameter", x.out(n, 2), 7);
        Works.dueBytes("its other one", x, n, "0134");
        x.key(1, 3, -1);
        int early = x.entry(COME, 0, 0, 0);
        x.key(1, 4, -1);
        x.datum(0, 1);
        x.run(3);
        Works.due("what came with entry() is held", x.out(early, 1), 0);
        Works.due("its key", port(x, 1, 3), 7);
        Works.due("not the one of later", port(x, 1, 4), 333);
    }

    private static void whatIsThrown() {
        PacketWorks x = Works.with(HEAD + "table t { key 1 : exact; actions one; default two (); room 1 ways 1 stash 0; }"
                + " control { } emit x;");
        Works.dueThrow("no such kind, and not laid", IndexOutOfBoundsException.class, () -> x.entry(3, 0, 0, 0));
        Works.dueThrow("no such kind", IndexOutOfBoundsException.class, () -> x.entry(-1, 0, 0, 0));
        Works.dueThrow("no such table", IndexOutOfBoundsException.class, () -> x.entry(0, 1, 0, 0));
        Works.dueThrow("no such table", IndexOutOfBoundsException.class, () -> x.entry(0, -1, 0, 0));
        Works.dueThrow("not laid", IllegalStateException.class, () -> x.entry(0, 0, 0, 0));
        x.lay(1, 0, 0);
        for (int i = 0; i < 40; i++) {
            Works.due("entry", x.entry(i % 3, 0, 0, 99), i);
        }
        Works.dueThrow("the line is full", IllegalStateException.class, () -> x.entry(0, 0, 0, 0));
        Works.dueThrow("the line is full, no such table", IndexOutOfBoundsException.class, () -> x.entry(0, 9, 0, 0));
        x.run(1);
        Works.due("entry", x.entry(0, 0, 0, 0), 40);
    }

    private static void exactKeys() {
        PacketWorks x = table("key x.a : exact;", "2 ways 1 stash 1");
        x.key(0, 5, -1);
        Works.due("come", entry(x, COME, 0, 1), 0);
        Works.due("match", port(x, 5, 0), 222);
        Works.due("none", port(x, 6, 0), 333);
        Works.due("go", entry(x, GO, 0, 77), 0);
        Works.due("gone", port(x, 5, 0), 333);
        x.key(0, 5, 0x7f);
        Works.due("not all ones", entry(x, COME, 0, 1), 1);
        x.key(0, 0x105, 0xff);
        Works.due("cut to the width", entry(x, COME, 0, 1), 0);
        Works.due("match", port(x, 5, 0), 222);
    }

    private static void put(PacketWorks x, long value, long mask, int priority, int datum) {
        x.key(0, value, mask);
        x.datum(0, datum);
        Works.due("entry " + value + " & " + mask, entry(x, COME, priority, 0), 0);
    }

    private static void prefixes() {
        PacketWorks x = table("key x.a : prefix; key x.b & 1 : exact;", "8");
        x.key(1, 0, -1);
        put(x, 0, 0, 100, 1);
        put(x, 0x80, 0x80, -3, 2);
        put(x, 0xf0, 0xf0, -9, 3);
        put(x, 0xf7, 0xff, Integer.MIN_VALUE, 4);
        Works.due("0 ones", port(x, 0x10, 0), 1);
        Works.due("1 one", port(x, 0x90, 0), 2);
        Works.due("4 ones", port(x, 0xf6, 0), 3);
        Works.due("8 ones", port(x, 0xf7, 0), 4);
        Works.due("another exact key", port(x, 0xf7, 1), 333);
        x.key(0, 0, 0x7f);
        Works.due("no ones from the top", entry(x, COME, 0, 1), 1);
        x.key(0, 0, 0xa0);
        Works.due("a gap", entry(x, COME, 0, 1), 1);
        Works.due("a gap, of one that goes", entry(x, GO, 0, 1), 1);
        x.key(0, 0, 0xfffffffffffffe00L);
        Works.due("nothing behind the cut: there already", entry(x, COME, 0, 1), 1);
        x.key(0, 0xf7, -1);
        Works.due("all ones: there already", entry(x, COME, 0, 1), 1);
        Works.due("entries", x.entries(0, 0), 4);
        PacketWorks longestFirst = table("key x.a : prefix;", "4");
        put(longestFirst, 0xf0, 0xf0, 0, 3);
        put(longestFirst, 0xc0, 0xc0, 9, 2);
        put(longestFirst, 0, 0, 9, 1);
        Works.due("more ones are ahead of priority", port(longestFirst, 0xf0, 0), 3);
        Works.due("2 ones", port(longestFirst, 0xc0, 0), 2);
        Works.due("0 ones", port(longestFirst, 0x40, 0), 1);
    }

    private static void maskedKeys() {
        PacketWorks x = table("key x.a : masked;", "5");
        put(x, 0xff, 0x01, 5, 1);
        put(x, 0x02, 0x02, 5, 2);
        put(x, 0x06, 0x06, 6, 3);
        put(x, 0x00, 0x00, -7, 4);
        put(x, 0x08, 0x08, Integer.MAX_VALUE, 5);
        Works.due("the first to come of one priority", port(x, 0x03, 0), 1);
        Works.due("the second alone", port(x, 0x02, 0), 2);
        Works.due("a greater priority", port(x, 0x07, 0), 3);
        Works.due("the greatest", port(x, 0x0f, 0), 5);
        Works.due("below 0", port(x, 0x10, 0), 4);
        x.key(0, 0x10, 0x10);
        Works.due("no room", entry(x, COME, 0, 1), 1);
        x.key(0, 0x101, 0x01);
        Works.due("values alike where the mask has ones", entry(x, GO, 0, 0), 0);
        Works.due("entries", x.entries(0, 0), 4);
        put(x, 0x01, 0x01, 5, 6);
        Works.due("it came last now", port(x, 0x03, 0), 2);
    }

    private static void refusals() {
        PacketWorks x = table("key x.a : exact;", "1 ways 2 stash 0");
        x.key(0, 1, -1);
        Works.due("an action that is not listed", entry(x, COME, 0, 2), 1);
        Works.due("no action", entry(x, COME, 0, 3), 1);
        Works.due("no action", entry(x, COME, 0, -1), 1);
        Works.due("none to change", entry(x, CHANGE, 0, 1), 1);
        Works.due("none to go", entry(x, GO, 0, 1), 1);
        Works.due("come", entry(x, COME, 0, 1), 0);
        Works.due("come again", entry(x, COME, 5, 0), 1);
        Works.due("change to one not listed", entry(x, CHANGE, 0, 2), 1);
        Works.due("change", entry(x, CHANGE, 0, 0), 0);
        x.key(0, 1, 0);
        Works.due("change with another mask", entry(x, CHANGE, 0, 0), 1);
        Works.due("go with another mask", entry(x, GO, 0, 0), 1);
        x.key(0, 1, -1);
        Works.due("go with no action", entry(x, GO, 0, -5), 0);
        Works.due("go again", entry(x, GO, 0, 1), 1);
    }

    private static void changeKeepsPriorityAndTurn() {
        PacketWorks x = table("key x.a : masked;", "5");
        put(x, 1, 1, 3, 1);
        put(x, 2, 2, 3, 2);
        x.key(0, 1, 1);
        x.datum(0, 9);
        Works.due("change", entry(x, CHANGE, -100, 0), 0);
        Works.due("its turn and priority stay, its data change", port(x, 3, 0), 9);
        Works.due("change", entry(x, CHANGE, -100, 1), 0);
        Works.due("its action changes", port(x, 3, 0), 222);
    }

    /** The buckets of a table with four of them, told by what is above one way. */
    private static void buckets() {
        long[] values = {0, 1, 2, 3, 4, 128, 255, 7};
        PacketWorks x = table("key x.a : exact; key x.b : exact;", "4 ways 1 stash 8");
        int[] filled = new int[4];
        int above = 0;
        for (long a : values) {
            long b = 255 - a;
            x.key(0, a, -1);
            x.key(1, b, -1);
            long hash = 31 * (a ^ a >>> 32 ^ a >>> 17) + (b ^ b >>> 32 ^ b >>> 17);
            int bucket = (int) Long.remainderUnsigned(hash ^ hash >>> 20 ^ hash >>> 7, 4);
            filled[bucket]++;
            above += filled[bucket] > 1 ? 1 : 0;
            Works.due("come", entry(x, COME, 0, 1), 0);
            Works.due("above", x.entries(0, 1), above);
        }
        manyBuckets();
        PacketWorks wide = table("key x.a ++ 0x12345678 as 32 ++ 0x9abcde as 24 : exact;", "16 ways 1 stash 8");
        long v = 0xfe12345678_9abcdeL;
        wide.key(0, v, -1);
        Works.due("come", entry(wide, COME, 0, 1), 0);
        Works.due("match with 64 bits", port(wide, 0xfe, 0), 222);
    }

    private static void manyBuckets() {
        PacketWorks x = Works.laid(HEAD + "meta q : 64; table t { key q : exact; key q << 1 : exact; key length : exact;"
                + " actions two; default two (); room 16 ways 1 stash 8; } control { apply t; } emit x;");
        int[] filled = new int[16];
        int above = 0;
        long value = 0x123456789abcdef1L;
        for (int i = 0; i < 100; i++) {
            value = value * 6364136223846793005L + 1442695040888963407L;
            long[] keys = {value, ~value >>> i % 64, value & 0xffff};
            long hash = 0;
            for (int k = 0; k < 3; k++) {
                x.key(k, k == 2 ? value : keys[k], -1);
                hash = 31 * hash + (keys[k] ^ keys[k] >>> 32 ^ keys[k] >>> 17);
            }
            int bucket = (int) Long.remainderUnsigned(hash ^ hash >>> 20 ^ hash >>> 7, 16);
            boolean full = filled[bucket] >= 1 && above >= 8;
            Works.due("come", entry(x, COME, 0, 1), full ? 1 : 0);
            above += !full && filled[bucket] >= 1 ? 1 : 0;
            filled[bucket] += full ? 0 : 1;
            Works.due("above", x.entries(0, 1), above);
        }
    }

    private static void rooms() {
        PacketWorks x = table("key x.a : exact;", "1 ways 2 stash 1");
        for (int i = 0; i < 4; i++) {
            x.key(0, i, -1);
            Works.due("come " + i, entry(x, COME, 0, 1), i < 3 ? 0 : 1);
        }
        Works.due("entries(0, 0)", x.entries(0, 0), 3);
        Works.due("entries(0, 1)", x.entries(0, 1), 1);
        x.key(0, 0, -1);
        Works.due("go", entry(x, GO, 0, 1), 0);
        Works.due("what is above goes with any of its bucket", x.entries(0, 1), 0);
        x.key(0, 3, -1);
        Works.due("come", entry(x, COME, 0, 1), 0);
        fourKeys();
        PacketWorks none = table("key x.a : exact;", "2 ways 1 stash 0");
        int came = 0;
        for (int i = 0; i < 6; i++) {
            none.key(0, i, -1);
            came += entry(none, COME, 0, 1) == 0 ? 1 : 0;
        }
        Works.due("one in each bucket", came, 2);
        Works.due("above", none.entries(0, 1), 0);
    }

    /** What is behind one that goes moves up with all that it has. */
    private static void fourKeys() {
        PacketWorks x = table("key x.a : masked; key x.b : masked; key x.a ^ x.b : masked; key in_port : masked;", "9");
        for (int i = 0; i < 4; i++) {
            x.key(0, i, 255);
            x.key(1, i + 1, 255);
            x.key(2, i ^ i + 1, 255);
            x.key(3, i, i);
            x.datum(0, i + 5);
            x.datum(1, i);
            Works.due("come", entry(x, COME, i, i == 2 ? 1 : 0), 0);
        }
        x.key(0, 1, 255);
        x.key(1, 2, 255);
        x.key(2, 3, 255);
        x.key(3, 1, 1);
        Works.due("go", entry(x, GO, 0, 0), 0);
        Works.due("entries", x.entries(0, 0), 3);
        int[] want = {5, 333, 333, 333};
        for (int i = 0; i < 4; i++) {
            Works.due("by port 0, " + i, port(x, i, i + 1), want[i]);
            int n = Works.send(x, 3, i, i + 1);
            x.run(3);
            Works.due("by port 3, " + i, x.out(n, 2), i == 1 ? 333 : i == 2 ? 222 : i + 5);
            Works.due("its second datum", x.byteAt(n, 1), i == 1 || i == 2 ? i + 1 : i);
        }
    }

    private static void entriesAnswers() {
        PacketWorks x = table("key x.a : masked;", "5");
        put(x, 1, 1, 3, 1);
        Works.due("entries(0, 0)", x.entries(0, 0), 1);
        Works.due("not hashed", x.entries(0, 1), 0);
        Works.due("entries(0, 2)", x.entries(0, 2), -1);
        Works.due("entries(0, -1)", x.entries(0, -1), -1);
        Works.due("entries(1, 0)", x.entries(1, 0), -1);
        Works.due("entries(-1, 0)", x.entries(-1, 0), -1);
        x.packet(0);
        Works.due("one in line is in no stage", x.entries(0, 0), 1);
        x.run(1);
        Works.dueThrow("in a stage", IllegalStateException.class, () -> x.entries(0, 0));
        Works.dueThrow("in a stage, none such", IllegalStateException.class, () -> x.entries(9, 9));
        Works.dueThrow("in a stage", IllegalStateException.class, () -> x.word(0, 0));
    }
}
