/** Promise 15 with the terms MEANING and WIDTHS: what EXPRs and statements reckon, told by what goes out. */
public final class MeaningTest {
    private static final String HEAD = "header h { a : 8; b : 1; c : 7; d : 64; } header e { f : 3; g : 5; } use x : h;"
            + " use y : h; use w : e; meta m : 8; meta o : 1; meta q : 64; array r : 8 [5];"
            + " state s { extract x; goto accept; } ";
    private static final int[] PACKET = {0xf1, 0x85, 0xfe, 0xdc, 0xba, 0x98, 0x76, 0x54, 0x32, 0x10, 0x77};

    public static void main(String[] args) {
        sumsAndBits();
        comparisons();
        shifts();
        widthsOfParts();
        whatBindsNearer();
        statements();
        parameters();
        Works.done();
    }

    /** The value of an EXPR of some width, for a packet with x.a = 0xf1, x.b = 1, x.c = 5, x.d = 0xfedcba9876543210. */
    private static void value(String expr, int width, long want) {
        PacketWorks x = Works.laid(HEAD + "array t : " + width + " [1]; control { store t [0] " + expr + "; } emit x;");
        Works.send(x, 0, PACKET);
        x.run(5);
        Works.due(expr, x.word(x.size(3) - 1, 0), want);
    }

    private static void sumsAndBits() {
        value("x.a + 15", 8, 0);
        value("x.a + x.a", 8, 0xe2);
        value("15 - x.a", 8, 0x1e);
        value("x.c - 6", 7, 0x7f);
        value("-x.a", 8, 0x0f);
        value("~x.a", 8, 0x0e);
        value("~x.c", 7, 0x7a);
        value("-1", 64, -1);
        value("~0", 64, -1);
        value("x.a & 0x33", 8, 0x31);
        value("x.a | 0x0e", 8, 0xff);
        value("x.a ^ 0xff", 8, 0x0e);
        value("x.d + x.d", 64, 0xfdb97530eca86420L);
        value("0xffffffffffffffff + 2", 64, 1);
        value("y.a", 8, 0);
        value("y.d | x.d", 64, 0xfedcba9876543210L);
        value("length", 16, 11);
    }

    private static void comparisons() {
        value("x.d > 1", 1, 1);
        value("x.d < 1", 1, 0);
        value("x.d >= x.d", 1, 1);
        value("x.d <= x.d - 1", 1, 0);
        value("x.d <= x.d", 1, 1);
        value("x.d > x.d", 1, 0);
        value("x.d < x.d", 1, 0);
        value("x.a >= 0xf2", 1, 0);
        value("x.a <= 0xf2", 1, 1);
        value("x.a > 0xf0", 1, 1);
        value("0x8000000000000000 > 0x7fffffffffffffff", 1, 1);
        value("0x8000000000000000 <= 0x7fffffffffffffff", 1, 0);
        value("x.a == 0xf1", 1, 1);
        value("x.a != 0xf1", 1, 0);
        value("x.b && valid x", 1, 1);
        value("x.b && valid y", 1, 0);
        value("valid y || x.b", 1, 1);
        value("!x.b", 1, 0);
        value("!valid y", 1, 1);
        value("!0", 1, 1);
        value("x.b ? 7 : x.a", 8, 7);
        value("valid y ? 7 : x.a", 8, 0xf1);
        value("valid y ? 7 : x.b ? x.a : 8", 8, 0xf1);
        value("1 ? x.a : 0", 8, 0xf1);
    }

    private static void shifts() {
        value("x.a << 4", 8, 0x10);
        value("x.a >> 4", 8, 0x0f);
        value("x.a << 0", 8, 0xf1);
        value("x.a >> 0", 8, 0xf1);
        value("x.a << 8", 8, 0);
        value("x.a >> 8", 8, 0);
        value("x.a >> x.c", 8, 7);
        value("x.a << 0xffffffffffffffff", 8, 0);
        value("x.a >> 0x8000000000000000", 8, 0);
        value("x.d >> 63", 64, 1);
        value("x.d << 63", 64, 0);
        value("x.d >> 64", 64, 0);
        value("1 << 63", 64, Long.MIN_VALUE);
        value("1 << x.c", 64, 32);
        value("x.c << 6", 7, 64);
        value("x.c << 7", 7, 0);
    }

    private static void widthsOfParts() {
        value("x.b ++ x.c", 8, 0x85);
        value("x.c ++ x.b", 8, 0x0b);
        value("x.a ++ x.b ++ x.c", 16, 0xf185);
        value("x.d[63:1] ++ x.b", 64, 0xfedcba9876543211L);
        value("~5 as 8", 8, 0xfa);
        value("(~5) as 8", 8, 0xfa);
        value("x.a as 16", 16, 0xf1);
        value("x.a as 4", 4, 1);
        value("x.d as 64", 64, 0xfedcba9876543210L);
        value("300 as 8", 8, 44);
        value("x.a[7:4]", 4, 15);
        value("x.a[4:4]", 1, 1);
        value("x.d[63:0]", 64, 0xfedcba9876543210L);
        value("x.d[63:60]", 4, 15);
        value("0xabc[11:4]", 8, 0xab);
        value("x.d[47:16][15:8]", 8, 0x76);
        value("x.d[15:0] as 20 [19:12]", 8, 3);
    }

    private static void whatBindsNearer() {
        value("x.b || x.b && valid y", 1, 1);
        value("x.b && x.a == 0xf1", 1, 1);
        value("x.a | x.a ^ x.a", 8, 0xf1);
        value("x.a ^ x.a & 0", 8, 0xf1);
        value("x.a & x.a << 4", 8, 0x10);
        value("x.a << 3 + 1", 8, 0x10);
        value("x.a - x.a - 1", 8, 0xff);
        value("x.a - (x.a - 1)", 8, 1);
        value("x.a + x.b ++ x.c", 8, 0x76);
        value("x.a >> 1 >> 1", 8, 0x3c);
        value("-x.a[3:0]", 4, 15);
        value("~x.b as 8", 8, 0xfe);
        value("-~x.a", 8, 0xf2);
        value("x.a == x.a | 0", 1, 1);
        value("x.a < 1 + x.a", 1, 1);
        value("x.b ? x.a : x.a + 1", 8, 0xf1);
        value("x.a == 1 || x.b ? 5 : x.a", 8, 5);
    }

    private static void out(String block, String want) {
        PacketWorks x = Works.laid(HEAD + "control { " + block + " } emit w, x;");
        Works.send(x, 0, PACKET);
        x.run(20);
        Works.dueBytes(block, x, 0, want);
    }

    private static void statements() {
        String rest = "fedcba987654321077";
        out("", "f185" + rest);
        out("x.a = 1; x.b = 0;", "0105" + rest);
        out("y.a = 5; x.a = y.a;", "0085" + rest);
        out("w.f = 7; w.g = 1;", "f185" + rest);
        out("add w; w.f = 5; w.g = 17;", "b1f185" + rest);
        out("add w; w.f = 5; add w; w.g = 1;", "a1f185" + rest);
        out("add w; w.f = 5; take w; add w;", "00f185" + rest);
        out("take x;", "77");
        out("take x; x.a = 3; add x;", "00000000000000000000" + "77");
        out("m = x.a; take x; add x; x.a = m;", "f1000000000000000000" + "77");
        out("store r [7] x.a; load m r [0];", "f185" + rest);
        out("store r [7] 0x42; load x.a r [2];", "4285" + rest);
        out("store r [x.d] 0x42; load x.a r [0xfedcba9876543210];", "4285" + rest);
        out("load y.a r [0]; load x.a r [1];", "0085" + rest);
    }

    private static void parameters() {
        PacketWorks x = Works.laid(HEAD + "action f (m : 8, x : 8, p : 1) { m = m; x.a = x; x.b = p; out_port = m as 16; }"
                + " table t { key 1 : exact; actions f; default f (0xab, 0xcd, 0); room 1 ways 1 stash 0; }"
                + " control { apply t; } emit x;");
        Works.send(x, 0, PACKET);
        x.run(20);
        Works.due("a parameter is ahead of a meta, but not where it is written to", x.out(0, 2), 0xab);
        Works.dueBytes("an instance is written to beside its parameter", x, 0, "cd05fedcba987654321077");
    }
}
