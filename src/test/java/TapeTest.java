/** Promises 1 to 3: a new object, feed, end. */
public final class TapeTest {
    public static void main(String[] args) {
        aNewObject();
        bytesComeInOrder();
        readyBytesAreGoneBehindEnd();
        whatEndRefuses();
        Works.done();
    }

    private static void aNewObject() {
        PacketWorks x = new PacketWorks();
        Works.due("NONE", PacketWorks.NONE, -1);
        Works.due("fault(0)", x.fault(0), 0);
        Works.due("fault(1)", x.fault(1), -1);
        Works.due("size(0)", x.size(0), -1);
        Works.due("homeless()", x.homeless(), -1);
        Works.due("step(0, 0)", x.step(0, 0), -1);
        Works.due("stage(0, 0)", x.stage(0, 0), -1);
        Works.due("out(0, 0)", x.out(0, 0), -1);
        Works.due("byteAt(0, 0)", x.byteAt(0, 0), -1);
        Works.due("did(0, 0)", x.did(0, 0), -1);
        Works.due("word(0, 0)", x.word(0, 0), 0);
        Works.due("entries(0, 0)", x.entries(0, 0), -1);
        for (int what = 0; what <= 5; what++) {
            Works.due("count(" + what + ")", x.count(what), 0);
        }
        Works.due("end(0)", x.end(0), 0);
        Works.dueThrow("lay", IllegalStateException.class, () -> x.lay(0, 0, 0));
        Works.dueThrow("packet", IllegalStateException.class, () -> x.packet(0));
        Works.dueThrow("run", IllegalStateException.class, () -> x.run(-1));
        Works.dueThrow("entry", IndexOutOfBoundsException.class, () -> x.entry(0, 0, 0, 0));
    }

    private static final String ALL_PAYLOAD = "header h { a : 8; } use x : h; control { } emit x;";

    private static void bytesComeInOrder() {
        PacketWorks x = Works.laid(ALL_PAYLOAD);
        x.feed(0x01020304, 0x05060708, 0x090a0b0c, 0x0d0e0f10, 0xf1f2f3f4);
        Works.due("end(20)", x.end(20), 20);
        x.feed(0xa1a2a3a4, 0xb1b2b3b4, 0, 0, 0);
        Works.due("end(6)", x.end(6), 26);
        int p = x.packet(0);
        x.run(2);
        Works.dueBytes("all of the tape", x, p, "0102030405060708090a0b0c0d0e0f10f1f2f3f4a1a2a3a4b1b2");
    }

    private static void readyBytesAreGoneBehindEnd() {
        PacketWorks x = Works.laid(ALL_PAYLOAD);
        Works.due("end(2) of none fed", x.end(2), 2);
        x.feed(-1, -1, -1, -1, -1);
        x.feed(0x11223344, 0, 0, 0, 0);
        Works.due("end(21)", x.end(21), -1);
        Works.due("end(-1)", x.end(-1), -1);
        Works.due("end(5): they stay behind NONE, the latest feed holds", x.end(5), 7);
        Works.due("end(1): 0 behind a number", x.end(1), 8);
        x.feed(0x55000000, 0, 0, 0, 0);
        Works.due("end(0) answers a number, too", x.end(0), 8);
        Works.due("end(1)", x.end(1), 9);
        int p = x.packet(0);
        Works.due("the tape is empty", x.end(0), 0);
        x.run(2);
        Works.dueBytes("what came", x, p, "000011223344000000");
    }

    private static void whatEndRefuses() {
        PacketWorks x = new PacketWorks();
        for (int i = 0; i < 199; i++) {
            x.end(20);
        }
        Works.due("end(15)", x.end(15), 3995);
        Works.due("end(6) would be 4001", x.end(6), -1);
        Works.due("end(5)", x.end(5), 4000);
        Works.due("end(1)", x.end(1), -1);
        Works.due("end(0)", x.end(0), 4000);
        Works.due("end(MAX)", x.end(Integer.MAX_VALUE), -1);
        Works.due("end(MIN)", x.end(Integer.MIN_VALUE), -1);
    }
}
