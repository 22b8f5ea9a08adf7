/** Boundary cases of promises 1 to 3: a new object, feed, end. */
public final class EdgeTapeTest {
    private static final String PLAIN = "header h { a : 8; } use x : h; control { } emit x;";

    public static void main(String[] args) {
        aNewObject();
        theOrderOfBytes();
        readyBytesAtFirst();
        readyBytesBehindEnd();
        readyBytesBehindOtherCalls();
        numbersThatEndTakes();
        aTapeThatIsFull();
        Works.done();
    }

    private static void aNewObject() {
        Works.sentence("1: No text in hand, no program");
        PacketWorks x = new PacketWorks();
        Works.due("fault(0)", x.fault(0), 0);
        Works.due("fault(1)", x.fault(1), PacketWorks.NONE);
        for (int what = -1; what <= 9; what++) {
            Works.due("size(" + what + ")", x.size(what), PacketWorks.NONE);
        }
        Works.due("homeless()", x.homeless(), PacketWorks.NONE);
        Works.due("end(0)", x.end(0), 0);
        Works.dueThrow("read() of no text", IllegalArgumentException.class, x::read);
        Works.due("fault(0): the end where more must", x.fault(0), 1);
        Works.due("fault(1): the text's length", x.fault(1), 0);
        Works.due("NONE", PacketWorks.NONE, -1);
    }

    /** What a tape holds, told by a packet without states. */
    private static void tape(PacketWorks x, String want) {
        int n = x.packet(0);
        x.run(2);
        Works.dueBytes("the tape", x, n, want);
    }

    private static void theOrderOfBytes() {
        Works.sentence("2: those of a first, the highest of each first");
        PacketWorks x = Works.laid(PLAIN);
        x.feed(0x80ff007f, 0x01020304, 0xfffefdfc, Integer.MIN_VALUE, Integer.MAX_VALUE);
        Works.due("end(20)", x.end(20), 20);
        tape(x, "80ff007f01020304fffefdfc800000007fffffff");
        for (int n = 1; n <= 20; n++) {
            x.feed(0xa1a2a3a4, 0xb1b2b3b4, 0xc1c2c3c4, 0xd1d2d3d4, 0xe1e2e3e4);
            Works.due("end(" + n + ")", x.end(n), n);
            tape(x, "a1a2a3a4b1b2b3b4c1c2c3c4d1d2d3d4e1e2e3e4".substring(0, 2 * n));
        }
    }

    private static void readyBytesAtFirst() {
        Works.sentence("2: They are 0 at first");
        PacketWorks x = new PacketWorks();
        Works.due("end(20)", x.end(20), 20);
        Works.dueThrow("read()", IllegalArgumentException.class, x::read);
        Works.due("a byte 0 is a word that is none", x.fault(0), 2);
        PacketWorks y = Works.laid(PLAIN);
        Works.due("end(20)", y.end(20), 20);
        tape(y, "00".repeat(20));
    }

    private static void readyBytesBehindEnd() {
        Works.sentence("2: 0 behind each end() that answers a number");
        PacketWorks x = Works.laid(PLAIN);
        for (int n : new int[] {0, 1, 19, 20}) {
            x.feed(-1, -1, -1, -1, -1);
            x.end(n);
            Works.due("end(20) behind end(" + n + ")", x.end(20), n + 20);
            tape(x, "ff".repeat(n) + "00".repeat(20));
        }
        Works.sentence("2: not 0 behind an end() that answers NONE");
        for (int n : new int[] {-1, 21, Integer.MIN_VALUE, Integer.MAX_VALUE}) {
            x.feed(-1, -1, -1, -1, -1);
            Works.due("end(" + n + ")", x.end(n), -1);
            Works.due("end(20)", x.end(20), 20);
            tape(x, "ff".repeat(20));
        }
        Works.sentence("2: the latest feed() puts all twenty ready");
        x.feed(-1, -1, -1, -1, -1);
        x.feed(0, 1, 0, 0, 0);
        x.end(20);
        tape(x, "0000000000000001" + "00".repeat(12));
    }

    private static void readyBytesBehindOtherCalls() {
        Works.sentence("2: they stay ready behind packet() and read()");
        PacketWorks x = Works.laid(PLAIN);
        x.feed(0x11223344, 0, 0, 0, 0);
        x.packet(0);
        x.run(2);
        x.end(4);
        tape(x, "11223344");
        PacketWorks y = new PacketWorks();
        y.feed('a' << 24 | '$' << 16, 0, 0, 0, 0);
        Works.dueThrow("read()", IllegalArgumentException.class, y::read);
        y.end(2);
        Works.dueThrow("read()", IllegalArgumentException.class, y::read);
        Works.due("a name can't stand there", y.fault(0), 1);
        Works.due("at it", y.fault(1), 0);
    }

    private static void numbersThatEndTakes() {
        Works.sentence("3: NONE, and nothing comes, if n is not 0 .. 20");
        PacketWorks x = new PacketWorks();
        for (int n : new int[] {-1, 21, 22, -20, 256, 4000, -4000, Integer.MIN_VALUE, Integer.MAX_VALUE}) {
            Works.due("end(" + n + ")", x.end(n), -1);
            Works.due("end(0) behind it", x.end(0), 0);
        }
        Works.due("end(20)", x.end(20), 20);
        Works.due("end(1)", x.end(1), 21);
        Works.due("end(21)", x.end(21), -1);
        Works.due("end(-1)", x.end(-1), -1);
        Works.due("end(0)", x.end(0), 21);
    }

    private static void aTapeThatIsFull() {
        Works.sentence("3: NONE, and nothing comes, if it would have more than 4000");
        PacketWorks x = new PacketWorks();
        for (int i = 1; i <= 199; i++) {
            Works.due("end(20)", x.end(20), 20 * i);
        }
        Works.due("end(19)", x.end(19), 3999);
        Works.due("end(2): 4001", x.end(2), -1);
        Works.due("end(20): 4019", x.end(20), -1);
        Works.due("end(0)", x.end(0), 3999);
        Works.due("end(1): 4000", x.end(1), 4000);
        x.feed('a' << 24 | '$' << 16, 0, 0, 0, 0);
        Works.due("end(1): 4001", x.end(1), -1);
        Works.due("end(20): 4020", x.end(20), -1);
        Works.due("end(0)", x.end(0), 4000);
        x.feed('a' << 24 | '$' << 16, 0, 0, 0, 0);
        Works.due("end(2): 4002", x.end(2), -1);
        Works.dueThrow("read()", IllegalArgumentException.class, x::read);
        Works.due("the tape is empty, what was ready stays", x.end(2), 2);
        Works.dueThrow("read()", IllegalArgumentException.class, x::read);
        Works.due("a name can't stand there", x.fault(0), 1);
        Works.due("at it", x.fault(1), 0);
        Works.sentence("3: 4000 may be, and a text of 4000 bytes is read to its end");
        Works.due("nodes", Works.fine(PLAIN + " ".repeat(4000 - PLAIN.length())), 0);
        Works.fault(1, PLAIN + " ".repeat(3999 - PLAIN.length()) + "@;");
        Works.fault(1, " ".repeat(4000) + "@");
    }
}
