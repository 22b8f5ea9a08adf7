/** Boundary cases of the term ENTRIES, and of what THE LINE says of entries: masks, priorities, buckets, full tables. */
public final class EdgeEntriesTest {
    private static final String HEAD = "header h { a : 8; b : 8; } use x : h; meta q : 64; meta n : 7; meta o : 1;"
            + " state s { extract x; goto accept; } action put (p : 16) { out_port = p; }"
            + " action two (p : 1, k : 64) { out_port = 500; x.a = k[63:56]; x.b = p as 8; } action other () { out_port = 999; } ";
    private static final int COME = 0;
    private static final int CHANGE = 1;
    private static final int GO = 2;
    private static final int NOT_MATCHED = 999;

    public static void main(String[] args) {
        exactMasks();
        prefixMasks();
        maskedMasks();
        masksAreCut();
        valuesCountWhereMasksHaveOnes();
        dataAreCut();
        moreOnesAreAhead();
        onesOfOtherKeysDoNotCount();
        greaterPriorityIsAhead();
        theFirstToCome();
        oneThatChangesKeepsPriorityAndTurn();
        actionsOfTheTable();
        oneThatIsThere();
        oneThatIsNotThere();
        roomsThatAreFull();
        bucketsThatAreFull();
        whatIsAbove();
        hashes();
        keysBeyondTheTable();
        allKeysMustMatch();
        Works.done();
    }

    private static PacketWorks table(String keys, String room) {
        return Works.laid(HEAD + "table t { " + keys + " actions put, two; default other (); room " + room
                + "; } control { apply t; } emit x;");
    }

    /** An operation on the only table, run through: 0, or 1 if it was REFUSED. */
    private static int entry(PacketWorks x, int kind, int priority, int action) {
        int n = x.entry(kind, 0, priority, action);
        x.run(2);
        return x.out(n, 1);
    }

    private static int come(PacketWorks x, long value, long mask, int priority, long datum) {
        x.key(0, value, mask);
        x.datum(0, datum);
        return entry(x, COME, priority, 0);
    }

    private static int port(PacketWorks x, int a, int b) {
        int n = Works.send(x, 0, a, b);
        x.run(2);
        return x.out(n, 2);
    }

    private static void exactMasks() {
        Works.sentence("ENTRIES: a mask: exact: all ones; REFUSED if masks are not as their KIND wants");
        PacketWorks x = table("key x.a : exact;", "16 ways 4 stash 8");
        for (long mask : new long[] {0, 1, 0x7f, 0xfe, 0x80, 0xef, 0x100, 0xff00, ~0xffL}) {
            Works.due("mask " + Long.toHexString(mask), come(x, 5, mask, 0, 1), 1);
        }
        Works.due("all ones of its width", come(x, 5, 0xff, 0, 1), 0);
        Works.due("all ones", come(x, 6, -1, 0, 1), 0);
        Works.due("entries", x.entries(0, 0), 2);
        Works.sentence("LINE: REFUSED if masks are not as their KIND wants, of those that change or go, too");
        x.key(0, 5, 0x7f);
        Works.due("change", entry(x, CHANGE, 0, 0), 1);
        Works.due("go", entry(x, GO, 0, 0), 1);
        Works.due("entries", x.entries(0, 0), 2);
        PacketWorks wide = table("key q : exact;", "1 ways 1 stash 0");
        Works.due("63 ones of 64", come(wide, 0, Long.MAX_VALUE, 0, 1), 1);
        Works.due("63 ones of 64", come(wide, 0, -2, 0, 1), 1);
        Works.due("64 ones", come(wide, 0, -1, 0, 1), 0);
        PacketWorks narrow = table("key o : exact;", "1 ways 1 stash 0");
        Works.due("no one of one", come(narrow, 0, -2, 0, 1), 1);
        Works.due("one of one", come(narrow, 0, 1, 0, 1), 0);
        PacketWorks mixed = table("key x.a : exact; key x.b : masked;", "2");
        mixed.key(1, 0, 0);
        Works.due("exact beside masked", come(mixed, 1, 0xfe, 0, 1), 1);
        Works.due("exact beside masked", come(mixed, 1, 0xff, 0, 1), 0);
    }

    private static void prefixMasks() {
        Works.sentence("ENTRIES: prefix: ones from the top, then none");
        for (int mask = 0; mask < 256; mask++) {
            boolean fits = ((mask ^ 255) + 1 & (mask ^ 255)) == 0;
            PacketWorks x = table("key x.a : prefix;", "1");
            Works.due("mask " + Integer.toHexString(mask), come(x, 0, mask, 0, 1), fits ? 0 : 1);
        }
        for (long mask : new long[] {0, Long.MIN_VALUE, -1, -2, -1L << 32}) {
            Works.due("64 bits, mask " + Long.toHexString(mask), come(table("key q : prefix;", "1"), 0, mask, 0, 1), 0);
        }
        for (long mask : new long[] {1, Long.MAX_VALUE, 1L << 62, Long.MIN_VALUE + 1, ~(1L << 32)}) {
            Works.due("64 bits, mask " + Long.toHexString(mask), come(table("key q : prefix;", "1"), 0, mask, 0, 1), 1);
        }
        PacketWorks x = table("key x.a : prefix;", "4");
        Works.due("come", come(x, 0xf0, 0xf0, 0, 1), 0);
        x.key(0, 0xf0, 0x70);
        Works.due("change with a mask that may not be", entry(x, CHANGE, 0, 0), 1);
        Works.due("go with a mask that may not be", entry(x, GO, 0, 0), 1);
    }

    private static void maskedMasks() {
        Works.sentence("ENTRIES: masked: any mask");
        for (long mask : new long[] {0, 1, 0x55, 0xaa, 0x7f, 0x80, 0xff}) {
            PacketWorks x = table("key x.a : masked;", "1");
            Works.due("mask " + mask, come(x, 0xa5, mask, 0, 7), 0);
            for (int a : new int[] {0, 0xa5, 0x5a, 0xff}) {
                Works.due(a + " with mask " + mask, port(x, a, 0), ((a ^ 0xa5) & mask) == 0 ? 7 : NOT_MATCHED);
            }
        }
    }

    private static void masksAreCut() {
        Works.sentence("ENTRIES: a mask (first cut to the key's width)");
        PacketWorks x = table("key n : exact;", "1 ways 1 stash 0");
        Works.due("7 bits", come(x, 0, 0x7f, 0, 1), 0);
        x.key(0, 0, 0xff);
        Works.due("the same", entry(x, COME, 0, 0), 1);
        Works.due("go", entry(x, GO, 0, 0), 0);
        PacketWorks y = table("key x.a : prefix;", "9");
        Works.due("ones from the top of the key", come(y, 0xc0, 0xffc0, 0, 3), 0);
        Works.due("it is there", come(y, 0xc0, 0xc0, 0, 3), 1);
        Works.due("none left: a mask without ones", come(y, 0xff, 0xff00, 0, 4), 0);
        Works.due("that is there", come(y, 1, 0, 0, 4), 1);
        Works.due("matches", port(y, 0xff, 0), 3);
        Works.due("matches", port(y, 0x01, 0), 4);
        PacketWorks z = table("key x.a : masked;", "9");
        Works.due("come", come(z, 0x1ff, 0x180, 0, 3), 0);
        Works.due("there", come(z, 0x80, 0x80, 0, 3), 1);
    }

    private static void valuesCountWhereMasksHaveOnes() {
        Works.sentence("ENTRIES: a value counts only where its mask has ones, so values alike there are the same");
        PacketWorks x = table("key x.a : masked;", "9");
        Works.due("come", come(x, 0xff, 0x0f, 0, 1), 0);
        Works.due("the same", come(x, 0x0f, 0x0f, 5, 2), 1);
        Works.due("the same", come(x, 0xabcdef, 0x0f, 5, 2), 1);
        Works.due("another value", come(x, 0x0e, 0x0f, 0, 3), 0);
        Works.due("another mask", come(x, 0x0f, 0x1f, -1, 4), 0);
        x.key(0, 0x3f, 0x0f);
        x.datum(0, 55);
        Works.due("change by one that is alike", entry(x, CHANGE, 0, 0), 0);
        Works.due("it has changed", port(x, 0x0f, 0), 55);
        x.key(0, 0x7f, 0x0f);
        Works.due("go by one that is alike", entry(x, GO, 0, 0), 0);
        Works.due("it is gone", port(x, 0x1f, 0), NOT_MATCHED);
        Works.due("the one of another mask is not", port(x, 0x0f, 0), 4);
        PacketWorks exact = table("key x.a : exact;", "1 ways 4 stash 0");
        Works.due("come", come(exact, 0x105, -1, 0, 1), 0);
        Works.due("values are cut to the width", come(exact, 0x205, -1, 0, 1), 1);
        Works.due("matches", port(exact, 5, 0), 1);
        PacketWorks wide = table("key q : exact;", "1 ways 4 stash 0");
        Works.due("64 bits", come(wide, Long.MIN_VALUE, -1, 0, 1), 0);
        Works.due("another", come(wide, 0, -1, 0, 2), 0);
        Works.due("q is 0", port(wide, 5, 0), 2);
        PacketWorks none = table("key x.a : prefix;", "4");
        Works.due("no ones", come(none, 0x12, 0, 0, 1), 0);
        Works.due("all are the same", come(none, 0x34, 0, 0, 1), 1);
    }

    private static void dataAreCut() {
        Works.sentence("ENTRIES: DATA cut to its parameters");
        PacketWorks x = table("key x.a : exact;", "1 ways 4 stash 0");
        Works.due("come", come(x, 1, -1, 0, 0x12345), 0);
        Works.due("16 bits", port(x, 1, 0), 0x2345);
        Works.due("come", come(x, 2, -1, 0, -1), 0);
        Works.due("16 bits", port(x, 2, 0), 0xffff);
        x.key(0, 3, -1);
        x.datum(0, -2);
        x.datum(1, Long.MIN_VALUE);
        Works.due("come", entry(x, COME, 0, 1), 0);
        int n = Works.send(x, 0, 3, 9);
        x.run(2);
        Works.dueBytes("1 bit, 64 bits", x, n, "8000");
        x.datum(0, -1);
        Works.due("change", entry(x, CHANGE, 0, 1), 0);
        n = Works.send(x, 0, 3, 9);
        x.run(2);
        Works.dueBytes("1 bit", x, n, "8001");
    }

    private static void moreOnesAreAhead() {
        Works.sentence("ENTRIES: of several that with more ones in the prefix mask");
        PacketWorks x = table("key x.a : prefix;", "9");
        int[] order = {3, 8, 0, 5, 1, 7, 2, 6, 4};
        for (int ones : order) {
            Works.due("come", come(x, 0xff, 0xff00 >> ones, 100 - 10 * ones, ones), 0);
        }
        for (int ones = 0; ones < 8; ones++) {
            int a = 0xff & ~(0x80 >> ones);
            Works.due("of " + Integer.toHexString(a), port(x, a, 0), ones);
        }
        Works.due("all of them", port(x, 0xff, 0), 8);
        PacketWorks y = table("key x.a : prefix;", "2");
        Works.due("none", come(y, 0, 0, Integer.MAX_VALUE, 1), 0);
        Works.due("one", come(y, 0x80, 0x80, Integer.MIN_VALUE, 2), 0);
        Works.due("ahead of any priority", port(y, 0x80, 0), 2);
    }

    private static void onesOfOtherKeysDoNotCount() {
        Works.sentence("ENTRIES: more ones in the prefix mask, not in those of masked keys");
        PacketWorks x = table("key x.a : masked;", "2");
        Works.due("come", come(x, 0xff, 0xff, 0, 1), 0);
        Works.due("come", come(x, 0xff, 0x01, 1, 2), 0);
        Works.due("priority alone", port(x, 0xff, 0), 2);
        PacketWorks y = table("key x.a : masked; key x.b : masked;", "3");
        y.key(1, 0, 0);
        Works.due("come", come(y, 0x01, 0x01, 0, 1), 0);
        y.key(1, 7, 255);
        Works.due("come", come(y, 0xff, 0xff, 0, 2), 0);
        Works.due("the first to come", port(y, 0xff, 7), 1);
    }

    private static void greaterPriorityIsAhead() {
        Works.sentence("ENTRIES: then of greater priority (an int, with its sign)");
        int[] priorities = {0, Integer.MIN_VALUE, -1, 1, Integer.MAX_VALUE, -2, 2, Integer.MIN_VALUE + 1};
        for (int first : priorities) {
            for (int second : priorities) {
                PacketWorks x = table("key x.a : masked;", "2");
                Works.due("come", come(x, 1, 1, first, 1), 0);
                Works.due("come", come(x, 2, 2, second, 2), 0);
                Works.due(first + " beside " + second, port(x, 3, 0), second > first ? 2 : 1);
            }
        }
        PacketWorks x = table("key x.a : prefix; key x.b : exact;", "4");
        x.key(1, 0, -1);
        Works.due("come", come(x, 0x80, 0x80, 1, 1), 0);
        x.key(1, 1, -1);
        Works.due("come", come(x, 0x80, 0x80, 9, 2), 0);
        Works.due("only what matches", port(x, 0x80, 0), 1);
        Works.due("only what matches", port(x, 0x80, 1), 2);
    }

    private static void theFirstToCome() {
        Works.sentence("ENTRIES: then the first to come");
        PacketWorks x = table("key x.a : masked;", "3");
        Works.due("come", come(x, 4, 4, 7, 3), 0);
        Works.due("come", come(x, 1, 1, 7, 1), 0);
        Works.due("come", come(x, 2, 2, 7, 2), 0);
        Works.due("of three", port(x, 7, 0), 3);
        Works.due("of two", port(x, 3, 0), 1);
        x.key(0, 4, 4);
        Works.due("go", entry(x, GO, 0, 0), 0);
        Works.due("the next", port(x, 7, 0), 1);
        Works.due("come again", come(x, 4, 4, 7, 4), 0);
        Works.due("it is the last now", port(x, 7, 0), 1);
        Works.due("of two", port(x, 6, 0), 2);
    }

    private static void oneThatChangesKeepsPriorityAndTurn() {
        Works.sentence("LINE: One that changes keeps its priority and turn");
        PacketWorks x = table("key x.a : masked;", "3");
        come(x, 1, 1, 5, 1);
        come(x, 2, 2, 5, 2);
        come(x, 4, 4, 6, 3);
        x.key(0, 1, 1);
        x.datum(0, 11);
        Works.due("change", entry(x, CHANGE, Integer.MAX_VALUE, 0), 0);
        Works.due("its priority stays", port(x, 7, 0), 3);
        Works.due("its turn stays", port(x, 3, 0), 11);
        x.key(0, 4, 4);
        Works.due("change to another action", entry(x, CHANGE, Integer.MIN_VALUE, 1), 0);
        Works.due("its priority stays", port(x, 7, 0), 500);
        Works.due("entries", x.entries(0, 0), 3);
        Works.sentence("LINE: one that changes needs no room");
        PacketWorks full = table("key x.a : exact;", "1 ways 1 stash 0");
        Works.due("come", come(full, 1, -1, 0, 1), 0);
        full.datum(0, 2);
        Works.due("change", entry(full, CHANGE, 0, 0), 0);
        Works.due("it has changed", port(full, 1, 0), 2);
    }

    private static void actionsOfTheTable() {
        Works.sentence("LINE: REFUSED if the action is none of the table's (of those that come or change)");
        PacketWorks x = table("key x.a : exact;", "1 ways 4 stash 0");
        x.key(0, 1, -1);
        for (int action : new int[] {2, 3, 16, -1, Integer.MIN_VALUE, Integer.MAX_VALUE}) {
            Works.due("come with action " + action, entry(x, COME, 0, action), 1);
        }
        Works.due("come", entry(x, COME, 0, 0), 0);
        for (int action : new int[] {2, 3, 16, -1, Integer.MIN_VALUE, Integer.MAX_VALUE}) {
            Works.due("change to action " + action, entry(x, CHANGE, 0, action), 1);
        }
        Works.due("it is as it was", port(x, 1, 0), 0);
        Works.sentence("LINE: not of those that go");
        for (int action : new int[] {2, -1, Integer.MAX_VALUE}) {
            Works.due("go with action " + action, entry(x, GO, 0, action), 0);
            Works.due("come", entry(x, COME, 0, 1), 0);
        }
    }

    private static void oneThatIsThere() {
        Works.sentence("LINE: one that comes is REFUSED if one with the same values and masks is there");
        PacketWorks x = table("key x.a : masked; key x.b : masked;", "8");
        x.key(1, 1, 1);
        Works.due("come", come(x, 1, 1, 0, 1), 0);
        Works.due("again, with another priority and datum", come(x, 1, 1, 9, 9), 1);
        Works.due("as it was", port(x, 1, 1), 1);
        x.key(1, 0, 1);
        Works.due("another second value", come(x, 1, 1, 0, 2), 0);
        x.key(1, 1, 3);
        Works.due("another second mask", come(x, 1, 1, 0, 3), 0);
        x.key(1, 1, 1);
        Works.due("another first value", come(x, 0, 1, 0, 4), 0);
        Works.due("another first mask", come(x, 1, 3, 0, 5), 0);
        Works.due("entries", x.entries(0, 0), 5);
    }

    private static void oneThatIsNotThere() {
        Works.sentence("LINE: else REFUSED if there is none");
        PacketWorks x = table("key x.a : exact;", "1 ways 2 stash 0");
        x.key(0, 1, -1);
        Works.due("change in an empty table", entry(x, CHANGE, 0, 0), 1);
        Works.due("go in an empty table", entry(x, GO, 0, 0), 1);
        Works.due("come", entry(x, COME, 0, 0), 0);
        x.key(0, 2, -1);
        Works.due("change another", entry(x, CHANGE, 0, 0), 1);
        Works.due("another goes", entry(x, GO, 0, 0), 1);
        x.key(0, 1, -1);
        Works.due("go", entry(x, GO, 0, 0), 0);
        Works.due("go again", entry(x, GO, 0, 0), 1);
        Works.due("change what is gone", entry(x, CHANGE, 0, 0), 1);
        Works.due("entries", x.entries(0, 0), 0);
        PacketWorks y = table("key x.a : masked;", "3");
        come(y, 1, 1, 0, 1);
        y.key(0, 1, 3);
        Works.due("another mask", entry(y, GO, 0, 0), 1);
        Works.due("another mask", entry(y, CHANGE, 0, 0), 1);
    }

    private static void roomsThatAreFull() {
        Works.sentence("LINE: one that comes is REFUSED if there is no room (room N)");
        for (int room : new int[] {1, 2, 31, 32}) {
            PacketWorks x = table("key x.a : masked;", String.valueOf(room));
            for (int i = 0; i < room; i++) {
                Works.due("come " + i + " of " + room, come(x, i, 255, 0, i), 0);
            }
            Works.due("one more", come(x, 200, 255, 0, 1), 1);
            Works.due("entries", x.entries(0, 0), room);
            Works.due("above", x.entries(0, 1), 0);
            Works.due("the last one", port(x, room - 1, 0), room - 1);
            x.key(0, 0, 255);
            Works.due("one goes", entry(x, GO, 0, 0), 0);
            Works.due("one more", come(x, 200, 255, 0, 77), 0);
            Works.due("it is there", port(x, 200, 0), 77);
            Works.due("another", come(x, 201, 255, 0, 1), 1);
        }
        Works.sentence("LINE: one with the same values in a full table is REFUSED, too");
        PacketWorks x = table("key x.a : prefix;", "1");
        Works.due("come", come(x, 1, 255, 0, 1), 0);
        Works.due("again", come(x, 1, 255, 0, 1), 1);
    }

    private static int bucket(long value, int buckets) {
        long hash = value ^ value >>> 32 ^ value >>> 17;
        return (int) Long.remainderUnsigned(hash ^ hash >>> 20 ^ hash >>> 7, buckets);
    }

    private static void bucketsThatAreFull() {
        Works.sentence("ENTRIES: there is room as long as what is above W in all buckets is in sum not above S");
        for (int buckets : new int[] {1, 2, 4, 8, 16}) {
            for (int ways : new int[] {1, 4}) {
                for (int stash : new int[] {0, 1, 8}) {
                    PacketWorks x = table("key x.a : exact;", buckets + " ways " + ways + " stash " + stash);
                    int[] filled = new int[buckets];
                    int above = 0;
                    int held = 0;
                    for (int i = 0; i < 80; i++) {
                        int at = bucket(i, buckets);
                        boolean full = filled[at] >= ways && above >= stash;
                        Works.due("come " + i + " to " + buckets + " of " + ways + " and " + stash, come(x, i, -1, 0, i),
                                full ? 1 : 0);
                        above += !full && filled[at] >= ways ? 1 : 0;
                        filled[at] += full ? 0 : 1;
                        held += full ? 0 : 1;
                    }
                    Works.due("entries", x.entries(0, 0), held);
                    Works.due("above", x.entries(0, 1), above);
                }
            }
        }
        Works.sentence("ENTRIES: all of N times W and S may be there");
        PacketWorks x = table("key x.a : exact;", "16 ways 4 stash 8");
        int held = 0;
        for (int a = 0; a < 64; a++) {
            held += come(x, a, -1, 0, a) == 0 ? 1 : 0;
        }
        Works.due("4 in each of 16", held, 64);
        Works.due("none above", x.entries(0, 1), 0);
        for (int a = 64; a < 72; a++) {
            Works.due("8 above", come(x, a, -1, 0, a), 0);
        }
        Works.due("entries", x.entries(0, 0), 72);
        Works.due("above", x.entries(0, 1), 8);
        Works.due("one more", come(x, 72, -1, 0, 1), 1);
        Works.due("the last one matches", port(x, 71, 0), 71);
        x.key(0, 3, -1);
        Works.due("one goes", entry(x, GO, 0, 0), 0);
        Works.due("it is gone", port(x, 3, 0), NOT_MATCHED);
        Works.due("the last one is not", port(x, 71, 0), 71);
        Works.due("one more comes where one above its ways has gone", come(x, 200, -1, 0, 5), 0);
        x.key(0, 71, -1);
        Works.due("the last one goes", entry(x, GO, 0, 0), 0);
        Works.due("it is gone", port(x, 71, 0), NOT_MATCHED);
    }

    private static void whatIsAbove() {
        Works.sentence("20: how many above W in their buckets (1; 0 if it is not HASHED)");
        PacketWorks x = table("key x.a : exact;", "2 ways 1 stash 4");
        for (int a = 0; a < 6; a++) {
            Works.due("come", come(x, a, -1, 0, a), 0);
        }
        Works.due("4 above", x.entries(0, 1), 4);
        Works.due("one more", come(x, 6, -1, 0, 6), 1);
        for (int a = 0; a < 6; a += 2) {
            x.key(0, a, -1);
            Works.due("go", entry(x, GO, 0, 0), 0);
        }
        Works.due("one bucket is empty, the other has three", x.entries(0, 1), 2);
        Works.due("entries", x.entries(0, 0), 3);
        PacketWorks y = table("key x.a : prefix;", "4");
        come(y, 1, 255, 0, 1);
        come(y, 2, 255, 0, 1);
        Works.due("not HASHED", y.entries(0, 1), 0);
    }

    private static void hashes() {
        Works.sentence("ENTRIES: H = 31 H + (v ^ v >>> 32 ^ v >>> 17), 64 bits that run over; (H ^ H >>> 20 ^ H >>> 7) modulo N");
        long[] values = {-1, Long.MIN_VALUE, Long.MAX_VALUE, 1L << 32, 1L << 17, 1L << 20, 1L << 7, 1L << 27, 1L << 49,
            0x123456789abcdef0L, 0xf00000000000000fL, 1L << 63 | 1L << 31, 0x0f0f0f0f0f0f0f0fL, 3L << 40};
        for (int keys = 1; keys <= 4; keys++) {
            PacketWorks x = table(Works.times(keys, "key q : exact; "), "16 ways 1 stash 8");
            int[] filled = new int[16];
            int above = 0;
            for (int i = 0; i < values.length; i++) {
                long hash = 0;
                for (int k = 0; k < keys; k++) {
                    long v = values[(i + k * k) % values.length];
                    x.key(k, v, -1);
                    hash = 31 * hash + (v ^ v >>> 32 ^ v >>> 17);
                }
                int at = (int) Long.remainderUnsigned(hash ^ hash >>> 20 ^ hash >>> 7, 16);
                boolean full = filled[at] >= 1 && above >= 8;
                Works.due("come " + i + " with " + keys, entry(x, COME, 0, 0), full ? 1 : 0);
                above += !full && filled[at] >= 1 ? 1 : 0;
                filled[at] += full ? 0 : 1;
                Works.due("above with " + keys, x.entries(0, 1), above);
            }
        }
    }

    private static void keysBeyondTheTable() {
        Works.sentence("ENTRIES: a value for each key of the table, no more");
        PacketWorks x = table("key x.a : exact;", "1 ways 2 stash 0");
        x.key(1, 5, 0);
        x.key(3, 7, 9);
        Works.due("come", come(x, 1, -1, 0, 1), 0);
        x.key(1, 6, -1);
        Works.due("the same", come(x, 1, -1, 0, 1), 1);
        Works.due("matches", port(x, 1, 3), 1);
    }

    private static void allKeysMustMatch() {
        Works.sentence("ENTRIES: It MATCHES where the masks have ones");
        PacketWorks x = table("key x.a : masked; key x.b : masked; key in_port[7:0] : exact; key length : masked;", "2");
        x.key(1, 0xf0, 0xf0);
        x.key(2, 0, -1);
        x.key(3, 0, 0);
        Works.due("come", come(x, 0x0f, 0x0f, 0, 3), 0);
        Works.due("all", port(x, 0x1f, 0xf1), 3);
        Works.due("not the first", port(x, 0x1e, 0xf1), NOT_MATCHED);
        Works.due("not the second", port(x, 0x1f, 0x71), NOT_MATCHED);
        int n = Works.send(x, 1, 0x1f, 0xf1);
        x.run(2);
        Works.due("not the third", x.out(n, 2), NOT_MATCHED);
    }
}
