/** Boundary cases of the term MEANING. */
public final class EdgeMeaningTest {
    private static final String HEAD = "header h { a : 8; b : 16; } header e { f : 3; g : 5; } header z { w : 64; } use x : h;"
            + " use y : h; use t : e; use v : z; meta m : 8; meta n : 8; meta o : 1; meta q : 64; ";
    private static final int REJECTED = 2;

    public static void main(String[] args) {
        cutToTheWidth();
        withoutSign();
        shiftsOfEachWidth();
        partsOfEachWidth();
        whatBindsNearer();
        fieldsThatAreNotValid();
        lengths();
        ports();
        metasAreAnew();
        theFirstState();
        withoutAState();
        extractToTheEnd();
        extractOfOneThatIsValid();
        theLongestWay();
        rejected();
        select();
        indexes();
        addAndTake();
        dropped();
        applied();
        emitted();
        Works.done();
    }

    /** The 64 bits of what an EXPR answers for a packet of 16 bytes whose first and second 8 are u and v. */
    private static long reckon(int width, String expr, long u, long v) {
        PacketWorks x = Works.laid("header h { u : 64; v : 64; } use x : h; state s { extract x; goto accept; } array r : "
                + width + " [1]; control { store r [0] " + expr + "; } emit x;");
        int[] bytes = new int[16];
        for (int i = 0; i < 8; i++) {
            bytes[i] = (int) (u >>> 56 - 8 * i & 255);
            bytes[8 + i] = (int) (v >>> 56 - 8 * i & 255);
        }
        Works.send(x, 0, bytes);
        x.run(2);
        return x.word(0, 0);
    }

    private static long ones(int width) {
        return width == 64 ? -1L : (1L << width) - 1;
    }

    private static final int[] WIDTHS = {1, 2, 7, 8, 9, 15, 16, 31, 32, 33, 62, 63, 64};
    private static final long[] VALUES = {0, 1, 2, -1, Long.MIN_VALUE, Long.MAX_VALUE, 0xa5a5a5a5a5a5a5a5L};

    private static void cutToTheWidth() {
        Works.sentence("MEANING: what is reckoned is cut to its width");
        for (int width : WIDTHS) {
            String u = "(x.u as " + width + ")";
            String v = "(x.v as " + width + ")";
            for (long a : VALUES) {
                Works.due("-" + u, reckon(width, "-" + u, a, 0), -a & ones(width));
                Works.due("~" + u, reckon(width, "~" + u, a, 0), ~a & ones(width));
                for (long b : new long[] {0, 1, -1, Long.MIN_VALUE}) {
                    Works.due(u + " + " + v, reckon(width, u + " + " + v, a, b), a + b & ones(width));
                    Works.due(u + " - " + v, reckon(width, u + " - " + v, a, b), a - b & ones(width));
                }
            }
        }
    }

    private static void withoutSign() {
        Works.sentence("MEANING: All is without sign");
        for (int width : WIDTHS) {
            String u = "(x.u as " + width + ")";
            String v = "(x.v as " + width + ")";
            for (long a : VALUES) {
                for (long b : new long[] {0, -1, Long.MIN_VALUE, Long.MAX_VALUE}) {
                    int order = Long.compareUnsigned(a & ones(width), b & ones(width));
                    Works.due(u + " < " + v, reckon(1, u + " < " + v, a, b), order < 0 ? 1 : 0);
                    Works.due(u + " <= " + v, reckon(1, u + " <= " + v, a, b), order <= 0 ? 1 : 0);
                    Works.due(u + " > " + v, reckon(1, u + " > " + v, a, b), order > 0 ? 1 : 0);
                    Works.due(u + " >= " + v, reckon(1, u + " >= " + v, a, b), order >= 0 ? 1 : 0);
                    Works.due(u + " == " + v, reckon(1, u + " == " + v, a, b), order == 0 ? 1 : 0);
                    Works.due(u + " != " + v, reckon(1, u + " != " + v, a, b), order != 0 ? 1 : 0);
                }
            }
        }
    }

    private static void shiftsOfEachWidth() {
        Works.sentence("MEANING: A shift by the width or more gives 0");
        for (int width : WIDTHS) {
            String u = "(x.u as " + width + ")";
            for (long by : new long[] {0, 1, width - 1, width, width + 1, 63, 64, 65, 127, 128, 1L << 32, (1L << 32) + 1,
                Long.MAX_VALUE, Long.MIN_VALUE, -1}) {
                boolean inside = by >= 0 && by < width;
                Works.due(u + " << " + by, reckon(width, u + " << x.v", -1, by), inside ? -1L << by & ones(width) : 0);
                Works.due(u + " >> " + by, reckon(width, u + " >> x.v", -1, by), inside ? ones(width) >>> by : 0);
            }
            Works.due("by the width", reckon(width, u + " << " + width, -1, 0), 0);
            Works.due("by the width", reckon(width, u + " >> " + width, -1, 0), 0);
            Works.due("by one less", reckon(width, u + " << " + (width - 1), -1, 0), 1L << width - 1);
            Works.due("by one less", reckon(width, u + " >> " + (width - 1), -1, 0), 1);
        }
        Works.due("a NUMBER has 64", reckon(64, "1 << 63", 0, 0), Long.MIN_VALUE);
        Works.due("a NUMBER has 64", reckon(64, "1 << 64", 0, 0), 0);
        Works.due("a narrow one that shifts", reckon(64, "1 << x.u[5:0]", 63, 0), Long.MIN_VALUE);
        Works.due("one bit that shifts", reckon(8, "x.u as 8 << x.v[0:0]", 255, 1), 254);
    }

    private static void partsOfEachWidth() {
        Works.sentence("WIDTHS: [ h : l ] bits h to l; as N: cut, or with noughts ahead; ++ the left one above");
        long u = 0xfedcba9876543210L;
        for (int high = 0; high < 64; high += high < 4 || high > 59 ? 1 : 7) {
            for (int low = 0; low <= high; low += low < 2 ? 1 : 9) {
                int width = high - low + 1;
                Works.due("x.u[" + high + ":" + low + "]", reckon(width, "x.u[" + high + ":" + low + "]", u, 0),
                        u >>> low & ones(width));
            }
        }
        for (int width : WIDTHS) {
            Works.due("as " + width, reckon(width, "x.u as " + width, u, 0), u & ones(width));
            Works.due("noughts ahead", reckon(64, "x.u as " + width + " as 64", -1, 0), ones(width));
        }
        Works.due("++", reckon(64, "x.u[0:0] ++ x.v[62:0]", 1, 0), Long.MIN_VALUE);
        Works.due("++", reckon(64, "x.u[62:0] ++ x.v[0:0]", -1, 0), -2);
        Works.due("++", reckon(2, "x.u[0:0] ++ x.v[0:0]", 1, 0), 2);
        Works.due("++", reckon(64, "x.u[31:0] ++ x.v[31:0]", 0x80000001L, 0x7ffffffeL), 0x800000017ffffffeL);
    }

    private static final String[] SIGNS = {"||", "&&", "==", "!=", "<", "<=", ">", ">=", "|", "^", "&", "<<", ">>", "+", "-"};
    private static final int[] LEVELS = {1, 2, 3, 3, 3, 3, 3, 3, 4, 5, 6, 7, 7, 8, 8};

    private static long apply(String sign, long a, long b, int width) {
        boolean inside = b < width;
        switch (sign) {
            case "||": case "|": return a | b;
            case "&&": case "&": return a & b;
            case "==": return a == b ? 1 : 0;
            case "!=": return a != b ? 1 : 0;
            case "<": return a < b ? 1 : 0;
            case "<=": return a <= b ? 1 : 0;
            case ">": return a > b ? 1 : 0;
            case ">=": return a >= b ? 1 : 0;
            case "^": return a ^ b;
            case "<<": return (inside ? a << b : 0) & ones(width);
            case ">>": return inside ? a >> b : 0;
            case "+": return a + b & ones(width);
            default: return a - b & ones(width);
        }
    }

    /** Two signs with three operands of a width, in a few values: which two belong together. */
    private static void pair(int first, int second, int width, int[][] values) {
        String expr = "x.a " + SIGNS[first] + " x.b " + SIGNS[second] + " x.c";
        boolean compares = LEVELS[first] == 3 || LEVELS[second] == 3;
        String fields = width == 1 ? "a : 1; b : 1; c : 1; d : 5;" : "a : 8; b : 8; c : 8;";
        PacketWorks x = Works.laid("header h { " + fields + " } use x : h; array r : " + (compares ? 1 : width) + " [64];"
                + " state s { extract x; goto accept; } control { store r [in_port] " + expr + "; } emit x;");
        for (int i = 0; i < values.length; i++) {
            int[] v = values[i];
            if (width == 1) {
                Works.send(x, i, v[0] << 7 | v[1] << 6 | v[2] << 5);
            } else {
                Works.send(x, i, v);
            }
        }
        x.run(40);
        for (int i = 0; i < values.length; i++) {
            int[] v = values[i];
            boolean right = LEVELS[second] > LEVELS[first];
            long want = right ? apply(SIGNS[first], v[0], apply(SIGNS[second], v[1], v[2], width), width)
                    : apply(SIGNS[second], apply(SIGNS[first], v[0], v[1], width), v[2], width);
            Works.due(expr + " of " + v[0] + ", " + v[1] + ", " + v[2], x.word(0, i), want);
        }
    }

    private static void whatBindsNearer() {
        Works.sentence("PROGRAM: Then, each of the next with its signs between, from left to right: OR; AND; SAME; BAR; HAT; BOTH;"
                + " SHIFT; SUM");
        int[][] bits = new int[8][];
        for (int i = 0; i < 8; i++) {
            bits[i] = new int[] {i >> 2, i >> 1 & 1, i & 1};
        }
        int[][] bytes = {{0xf0, 0x0f, 4}, {1, 2, 3}, {0xff, 1, 1}, {3, 1, 7}, {0x55, 0xaa, 2}, {200, 100, 255}, {7, 7, 0},
            {0x81, 3, 5}, {12, 10, 6}, {0, 255, 1}, {16, 4, 2}, {90, 3, 3}};
        for (int first = 0; first < SIGNS.length; first++) {
            for (int second = 0; second < SIGNS.length; second++) {
                boolean bothCompare = LEVELS[first] == 3 && LEVELS[second] == 3;
                if (!bothCompare) {
                    pair(first, second, 1, bits);
                }
                boolean wide = LEVELS[first] > 3 && LEVELS[second] > 2 || LEVELS[first] > 2 && LEVELS[second] > 3;
                if (wide && !bothCompare) {
                    pair(first, second, 8, bytes);
                }
            }
        }
        Works.sentence("PROGRAM: then JOIN ++ ; UNARY: ~ ! - ; an ATOM with [ ] or as N behind");
        Works.due("+ ahead of ++", reckon(8, "x.u[7:0] + x.v[3:0] ++ x.v[7:4]", 0x11, 0x5a), 0x11 + 0xa5);
        Works.due("+ behind ++", reckon(8, "x.v[3:0] ++ x.v[7:4] + x.u[7:0]", 0x11, 0x5a), 0xa5 + 0x11);
        Works.due("<< behind ++", reckon(8, "x.v[3:0] ++ x.v[7:4] << 1", 0, 0x5a), 0x4a);
        Works.due("== behind ++", reckon(1, "x.v[3:0] ++ x.v[7:4] == 0xa5", 0, 0x5a), 1);
        Works.due("++ from left to right", reckon(12, "x.u[3:0] ++ x.u[7:4] ++ x.u[11:8]", 0xabc, 0), 0xcba);
        Works.due("~ ahead of ++", reckon(8, "~x.u[3:0] ++ x.u[3:0]", 5, 0), 0xa5);
        Works.due("- ahead of +", reckon(8, "-x.u[7:0] + 1", 5, 0), 0xfc);
        Works.due("! ahead of ==", reckon(1, "!x.u[0:0] == x.v[0:0]", 0, 0), 0);
        Works.due("~ ahead of as", reckon(8, "~x.u[0:0] as 8", 1, 0), 0xfe);
        Works.due("- ahead of [ ]", reckon(4, "-x.u[7:4]", 0x10, 0), 0xf);
        Works.due("? : behind ||", reckon(8, "x.u[0:0] || x.v[0:0] ? 1 : x.u[7:0]", 0, 1), 1);
        Works.due("? : of + ", reckon(8, "x.u[0:0] ? 1 : 2 + x.u[7:0]", 0x10, 0), 0x12);
        Works.due("? : in ? :", reckon(8, "x.u[0:0] ? 1 : x.v[0:0] ? 2 : x.u[7:0]", 2, 1), 2);
        Works.due("? : in ? :", reckon(8, "x.u[0:0] ? 1 : x.v[0:0] ? 2 : x.u[7:0]", 3, 1), 1);
        Works.due("? : in ? :", reckon(8, "x.u[0:0] ? 1 : x.v[0:0] ? 2 : x.u[7:0]", 4, 0), 4);
    }

    /** A packet of a program, run through. */
    private static PacketWorks sent(String parts, String control, int port, int... bytes) {
        PacketWorks x = Works.laid(HEAD + parts + " control { " + control + " } emit t, x, y, v;");
        Works.send(x, port, bytes);
        x.run(20);
        return x;
    }

    private static void fieldsThatAreNotValid() {
        Works.sentence("MEANING: A field of an instance that is not VALID is 0, and stays so");
        PacketWorks x = sent("state s { extract y; goto accept; }", "x.a = 255; x.b = 65535; m = x.a; y.a = x.a; add x;"
                + " out_port = x.b;", 0, 1, 2, 3);
        Works.due("what was put there", x.out(0, 2), 0);
        Works.dueBytes("its fields are 0 when it is VALID again", x, 0, "000000" + "000203");
        x = sent("state s { extract x; goto accept; }", "take x; x.a = 9; m = x.a; add x; x.b = m as 16;", 0, 7, 8, 9);
        Works.dueBytes("taken", x, 0, "000000");
        x = sent("array r : 8 [1]; state s { extract y; goto accept; }", "store r [0] 77; load x.a r [0]; add x;", 0, 7, 8, 9);
        Works.dueBytes("load into one that is not VALID", x, 0, "000000" + "070809");
        x = sent("state s { select x.a { 0 : g; default : reject; } } state g { extract x; goto accept; }", "", 0, 7, 8, 9);
        Works.due("in a state ahead of its extract", x.out(0, 1), 0);
    }

    private static void lengths() {
        Works.sentence("MEANING: PACKETS of at most 128 bytes: metas 0 but in_port and length");
        for (int length : new int[] {0, 1, 2, 127, 128}) {
            PacketWorks x = sent("", "out_port = length;", 0, new int[length]);
            Works.due("length", x.out(0, 2), length);
            Works.due("bytes", x.out(0, 3), length);
        }
        PacketWorks x = sent("state s { extract x; goto accept; }", "take x; out_port = length;", 0, 1, 2, 3, 4);
        Works.due("as it came", x.out(0, 2), 4);
        Works.due("as it goes", x.out(0, 3), 1);
        x = sent("", "if m == 0 && n == 0 && o == 0 && q == 0 && out_port == 0 && !valid x && !valid y { add t; t.g = 1; }", 0);
        Works.dueBytes("all 0", x, 0, "01");
        x = sent("state s { select length { 4 : accept; default : reject; } }", "", 0, 1, 2, 3, 4);
        Works.due("a state knows it", x.out(0, 1), 0);
    }

    private static void ports() {
        Works.sentence("MEANING: in_port (the port's lowest 16 bits)");
        for (int port : new int[] {0, 1, 32768, 65535, 65536, 65537, -1, -65536, -65535, Integer.MIN_VALUE, Integer.MAX_VALUE}) {
            PacketWorks x = sent("", "out_port = in_port;", port, 1);
            Works.due("in_port of " + port, x.out(0, 2), port & 65535);
        }
        PacketWorks x = sent("", "out_port = 0xffff;", 0, 1);
        Works.due("out_port without sign", x.out(0, 2), 65535);
        x = sent("", "out_port = in_port + 1;", -1, 1);
        Works.due("out_port is cut", x.out(0, 2), 0);
        x = sent("", "", 77, 1);
        Works.due("out_port at first", x.out(0, 2), 0);
    }

    private static void metasAreAnew() {
        Works.sentence("MEANING: PACKETS: all instances are not valid, metas 0, each time");
        PacketWorks x = Works.laid("header h { a : 8; } use x : h; meta k : 16; control { out_port = k; k = in_port + 1;"
                + " if valid x { out_port = 7; } if x.a != 0 { out_port = 8; } add x; x.a = 255; if in_port == 1 { drop; } }"
                + " emit x;");
        for (int round = 0; round < 8; round++) {
            for (int i = 0; i < 36; i++) {
                x.packet((i + round) % 3);
            }
            x.run(50);
            for (int i = 30; i < 36; i++) {
                int n = round * 36 + i;
                boolean drops = (i + round) % 3 == 1;
                Works.due("out(" + n + ", 1)", x.out(n, 1), drops ? 1 : 0);
                Works.due("out(" + n + ", 2)", x.out(n, 2), drops ? -1 : 0);
            }
        }
        Works.due("all went OUT", x.count(3), 288);
    }

    private static void theFirstState() {
        Works.sentence("MEANING: Reading begins at the first state");
        PacketWorks x = sent("state b { extract t; goto a; } state c { goto reject; } state a { extract x; goto accept; }",
                "", 0, 0x21, 1, 2, 3, 4);
        Works.dueBytes("the first of the text", x, 0, "21" + "010203" + "04");
        Works.due("not rejected", x.out(0, 1), 0);
        x = sent("state b { goto c; } state a { goto reject; } state c { extract t; goto accept; }", "take t;", 0, 0x21, 1);
        Works.dueBytes("not the first that was named", x, 0, "01");
    }

    private static void withoutAState() {
        Works.sentence("MEANING: without one all is PAYLOAD");
        PacketWorks x = sent("", "if valid x { drop; } add t;", 0, 1, 2, 3);
        Works.dueBytes("all is PAYLOAD", x, 0, "00" + "010203");
        x = sent("", "", 0);
        Works.due("no bytes at all", x.out(0, 3), 0);
        Works.due("it goes OUT", x.out(0, 1), 0);
        Works.due("byteAt(0, 0)", x.byteAt(0, 0), -1);
    }

    private static void extractToTheEnd() {
        Works.sentence("MEANING: extract beyond the packet's end: REJECT");
        String states = "state s { extract x; extract t; goto accept; }";
        int[] want = {REJECTED, REJECTED, REJECTED, REJECTED, 0, 0};
        for (int length = 0; length <= 5; length++) {
            PacketWorks x = sent(states, "", 0, new int[length]);
            Works.due("of " + length + " bytes", x.out(0, 1), want[length]);
            Works.due("bytes", x.out(0, 3), length >= 4 ? length : -1);
        }
        String wide = "header w { " + Works.times(8, "f# : 64; ") + "} use k : w; use l : w; state s { extract k; extract l;"
                + " goto accept; }";
        Works.due("128 bytes", sent(wide, "take k;", 0, new int[128]).out(0, 3), 0);
        Works.due("127 bytes", sent(wide, "take k;", 0, new int[127]).out(0, 1), REJECTED);
        Works.sentence("MEANING: extract: the instance's fields from the next bits");
        PacketWorks x = sent("header u { a : 1; b : 2; c : 64; d : 5; } use k : u; state s { extract k; goto accept; }",
                "out_port = k.a ++ k.b ++ k.d ++ k.c[63:56];", 0, 0xaf, 0xff, 0xff, 0xff, 0xff, 0xff, 0xff, 0xff, 0xf5);
        Works.due("fields over bytes", x.out(0, 2), 0b101_10101_01111111);
    }

    private static void extractOfOneThatIsValid() {
        Works.sentence("MEANING: extract of one that is valid already: REJECT");
        Works.due("twice in a state", sent("state s { extract t; extract t; goto accept; }", "", 0, 1, 2).out(0, 1), REJECTED);
        Works.due("in two states", sent("state s { extract t; goto u; } state u { extract t; goto accept; }", "", 0, 1, 2)
                .out(0, 1), REJECTED);
        Works.due("round and round", sent("state s { extract t; goto s; }", "", 0, 1, 2).out(0, 1), REJECTED);
        String round = "state s { extract t; goto u; } state u { select t.g { 1 : s; default : accept; } }";
        Works.due("round", sent(round, "", 0, 1, 2).out(0, 1), REJECTED);
        Works.due("once", sent(round, "", 0, 2, 2).out(0, 1), 0);
        Works.due("two of one header", sent("state s { extract x; extract y; goto accept; }", "", 0, 1, 2, 3, 4, 5, 6)
                .out(0, 1), 0);
        String instances = Works.times(8, "use k# : e; ");
        String long1 = instances + "state s0 { extract t; goto p0; } state p0 { goto s1; } " + chain();
        Works.due("twelve instances, sixteen states", sent(long1, "", 0, new int[9]).out(0, 1), 0);
    }

    /** Eight states without an extract are come to nine times each, and between them eight that extract. */
    private static void theLongestWay() {
        Works.sentence("MEANING: Reading goes on until accept or reject, however often it comes to a state");
        StringBuilder states = new StringBuilder();
        StringBuilder valid = new StringBuilder("valid k0");
        for (int i = 0; i < 7; i++) {
            states.append("state p" + i + " { goto p" + (i + 1) + "; } ");
            valid.append(" ++ valid k" + (i + 1));
        }
        states.append("state p7 { select " + valid + " { ");
        for (int i = 0; i < 8; i++) {
            states.append((0xff00 >> i & 255) + " : s" + i + "; ");
        }
        states.append("default : accept; } } ");
        for (int i = 0; i < 8; i++) {
            states.append("state s" + i + " { extract k" + i + "; goto p0; } ");
        }
        PacketWorks x = sent(Works.times(8, "use k# : e; ") + states, "out_port = k7.f ++ k7.g ++ k0.f ++ k0.g;", 0,
                1, 2, 3, 4, 5, 6, 7, 8, 9);
        Works.due("it is accepted", x.out(0, 1), 0);
        Works.due("the first and the last that were extracted", x.out(0, 2), 0x801);
        Works.dueBytes("the PAYLOAD behind them", x, 0, "09");
    }

    /** Seven more states that extract, each with one behind that does not. */
    private static String chain() {
        StringBuilder s = new StringBuilder();
        for (int i = 1; i <= 7; i++) {
            s.append("state s" + i + " { extract k" + (i - 1) + "; goto p" + i + "; } ");
            s.append("state p" + i + " { goto " + (i < 7 ? "s" + (i + 1) : "accept") + "; } ");
        }
        return s.toString();
    }

    private static void rejected() {
        Works.sentence("MEANING: REJECT (no step is done then)");
        PacketWorks x = Works.laid(HEAD + "array r : 8 [1]; state s { extract t; select t.g { 1 : reject; default : accept; } }"
                + " action f () { } table u { key m : exact; actions f; default f (); room 1 ways 1 stash 0; }"
                + " control { store r [0] t.f ++ t.g; if 1 { } drop; apply u; } emit t;");
        Works.send(x, 0, 0x21, 5);
        x.run(9);
        Works.due("REJECTed, not DROPPED", x.out(0, 1), REJECTED);
        Works.due("nothing is stored", x.word(0, 0), 0);
        for (int step = 0; step < 4; step++) {
            Works.due("did(0, " + step + ")", x.did(0, step), -1);
        }
        Works.due("a packet", x.out(0, 0), 0);
        Works.due("out_port", x.out(0, 2), -1);
        Works.due("bytes", x.out(0, 3), -1);
        Works.due("a byte", x.byteAt(0, 0), -1);
        Works.send(x, 0, 0x22, 5);
        x.run(9);
        Works.due("DROPPED", x.out(1, 1), 1);
        Works.due("stored", x.word(0, 0), 0x22);
        for (int step = 0; step < 4; step++) {
            Works.due("did(1, " + step + ")", x.did(1, step), step == 1 ? 1 : 0);
        }
    }

    private static void select() {
        Works.sentence("MEANING: select: the first case of which number and EXPR are the same (where the second number has ones)");
        String cases = "state s { extract t; select t.f ++ t.g { 7 : a; 7 & 7 : b; 0xf0 & 0xf0 : c; 0x0f & 0 : d;"
                + " default : reject; } } state a { extract x; goto accept; } state b { extract y; goto accept; }"
                + " state c { extract v; goto accept; } state d { goto accept; }";
        int[] bytes = {7, 1, 2, 3, 4, 5, 6, 7, 8};
        String control = "if valid x { out_port = 1; } else { if valid y { out_port = 2; } else { if valid v { out_port = 3; }"
                + " else { out_port = 4; } } }";
        int[][] cases2 = {{7, 1}, {15, 2}, {0xff, 2}, {0xf0, 3}, {0xf6, 3}, {6, 4}, {0, 4}, {0x70, 4}};
        for (int[] one : cases2) {
            bytes[0] = one[0];
            Works.due("select of " + one[0], sent(cases, control, 0, bytes).out(0, 2), one[1]);
        }
        Works.sentence("MEANING: select: else default");
        String none = "state s { extract t; select t.g { default : accept; } }";
        Works.due("no case", sent(none, "", 0, 7).out(0, 1), 0);
        String other = "state s { extract t; select t.g { 1 : accept; 2 & 3 : accept; default : reject; } }";
        Works.due("default", sent(other, "", 0, 3).out(0, 1), REJECTED);
        Works.due("a case", sent(other, "", 0, 6).out(0, 1), 0);
        String wide = "state s { extract v; select v.w { 0xffffffffffffffff : accept; 0x8000000000000000 & 0x8000000000000001"
                + " : accept; default : reject; } }";
        Works.due("64 bits", sent(wide, "", 0, 255, 255, 255, 255, 255, 255, 255, 255).out(0, 1), 0);
        Works.due("64 bits", sent(wide, "", 0, 128, 0, 0, 0, 0, 0, 0, 2).out(0, 1), 0);
        Works.due("64 bits", sent(wide, "", 0, 128, 0, 0, 0, 0, 0, 0, 1).out(0, 1), REJECTED);
    }

    private static void indexes() {
        Works.sentence("MEANING: load: the word at index modulo SIZE; store likewise");
        for (int size : new int[] {1, 2, 3, 5, 7, 63, 64}) {
            for (long index : new long[] {0, 1, size - 1, size, size + 1, 2L * size - 1, 255, 1L << 32, Long.MAX_VALUE,
                Long.MIN_VALUE, -1, -2, -size}) {
                int at = (int) Long.remainderUnsigned(index, size);
                String hex = "0x" + Long.toHexString(index);
                PacketWorks x = sent("array r : 16 [" + size + "]; array s : 16 [" + size + "];",
                        "store r [" + hex + "] 77; load out_port r [" + at + "];", 0, 1);
                Works.due("store at " + hex + " of " + size, x.word(0, at), 77);
                Works.due("load at " + at + " of " + size, x.out(0, 2), 77);
                Works.due("another array", x.word(1, at), 0);
                Works.due("the next word", x.word(0, at + 1), 0);
                PacketWorks y = sent("array r : 16 [" + size + "];", "store r [" + at + "] 77; load out_port r [" + hex + "];",
                        0, 1);
                Works.due("load at " + hex + " of " + size, y.out(0, 2), 77);
            }
        }
    }

    private static void addAndTake() {
        Works.sentence("MEANING: add: VALID, its fields 0 if it was not; take: not VALID");
        String states = "state s { extract x; goto accept; }";
        Works.dueBytes("add of one that is VALID", sent(states, "add x;", 0, 1, 2, 3), 0, "010203");
        Works.dueBytes("add of one that is not", sent(states, "add y;", 0, 1, 2, 3), 0, "010203" + "000000");
        Works.dueBytes("take, then add", sent(states, "take x; add x;", 0, 1, 2, 3), 0, "000000");
        Works.dueBytes("take of one that is not", sent(states, "take y;", 0, 1, 2, 3), 0, "010203");
        Works.dueBytes("take twice", sent(states, "take x; take x;", 0, 1, 2, 3, 4), 0, "04");
        Works.dueBytes("add twice", sent(states, "add t; t.g = 3; add t;", 0, 1, 2, 3), 0, "03" + "010203");
        Works.due("valid", sent(states, "take x; if valid x { drop; } add y; if valid y { out_port = 5; }", 0, 1, 2, 3)
                .out(0, 2), 5);
        PacketWorks x = sent(states, "add t; add y; add v; x.a = 255;", 0, new int[128]);
        Works.due("more bytes than came", x.out(0, 3), 128 + 1 + 3 + 8);
        Works.due("the last one", x.byteAt(0, 139), 0);
        Works.due("none behind it", x.byteAt(0, 140), -1);
        String big = "header w { " + Works.times(8, "f# : 64; ") + "} ";
        StringBuilder adds = new StringBuilder();
        StringBuilder names = new StringBuilder("k0");
        for (int i = 0; i < 12; i++) {
            adds.append("add k" + i + "; k" + i + ".f7 = " + (i + 1) + "; ");
            names.append(i > 0 ? ", k" + i : "");
        }
        PacketWorks most = Works.laid(big + Works.times(12, "use k# : w; ") + "control { " + adds + "} emit " + names + ";");
        int[] payload = new int[128];
        payload[127] = 200;
        Works.send(most, 0, payload);
        most.run(20);
        Works.due("twelve of 64 bytes, 128 behind", most.out(0, 3), 12 * 64 + 128);
        Works.due("the last of them", most.byteAt(0, 12 * 64 - 1), 12);
        Works.due("the last of all", most.byteAt(0, 12 * 64 + 127), 200);
        Works.due("none behind it", most.byteAt(0, 12 * 64 + 128), -1);
        for (int extracted = 0; extracted <= 2; extracted++) {
            String state = "state s { " + Works.times(extracted, "extract k#; ") + "goto accept; } ";
            PacketWorks some = Works.laid(big + Works.times(12, "use k# : w; ") + state + "control { " + adds + "} emit "
                    + names + ";");
            Works.send(some, 0, payload);
            some.run(20);
            int bytes = 12 * 64 + 128 - 64 * extracted;
            Works.due("twelve, of which " + extracted + " came", some.out(0, 3), bytes);
            Works.due("the last of them", some.byteAt(0, 12 * 64 - 1), 12);
            Works.due("the last of all", some.byteAt(0, bytes - 1), extracted == 2 ? 12 : 200);
            Works.due("none behind it", some.byteAt(0, bytes), -1);
        }
    }

    private static void dropped() {
        Works.sentence("MEANING: drop: DROPPED (the steps behind are done all the same)");
        PacketWorks x = sent("array r : 8 [1];", "drop; if 1 { store r [0] 5; } else { store r [0] 6; }", 0, 1);
        Works.due("DROPPED", x.out(0, 1), 1);
        Works.due("stored", x.word(0, 0), 5);
        Works.due("did", x.did(0, 2), 0);
        Works.due("not come to", x.did(0, 3), -1);
        Works.due("out_port", x.out(0, 2), -1);
        Works.due("bytes", x.out(0, 3), -1);
        Works.due("twice", sent("", "drop; drop;", 0, 1).out(0, 1), 1);
        Works.due("in an action", sent("action f () { drop; m = 1; } table u { key m : exact; actions f; default f ();"
                + " room 1 ways 1 stash 0; }", "apply u;", 0, 1).out(0, 1), 1);
    }

    private static void applied() {
        Works.sentence("MEANING: apply: the ENTRY that MATCHES, its action with its DATA, else default's");
        PacketWorks x = Works.laid(HEAD + "action f (p : 16) { out_port = p; } action g (p : 8, s : 8) { out_port = p ++ s; }"
                + " table u { key length : exact; actions f; default g (0xab, 0xcd); room 1 ways 1 stash 0; }"
                + " control { apply u; } emit x;");
        Works.send(x, 0, 1);
        x.run(2);
        Works.due("no entry: default's with its numbers", x.out(0, 2), 0xabcd);
        Works.due("default's action, which is not listed", x.did(0, 0), 1);
        x.key(0, 1, -1);
        x.datum(0, 0x5ffff);
        x.entry(0, 0, 0, 0);
        Works.send(x, 0, 1);
        Works.send(x, 0, 1, 2);
        x.run(4);
        Works.due("the entry's action with its DATA", x.out(2, 2), 0xffff);
        Works.due("its action", x.did(2, 0), 0);
        Works.due("another packet", x.out(3, 2), 0xabcd);
        Works.sentence("MEANING: an action's statements are done one behind the other");
        PacketWorks y = sent("action f () { m = 1; m = m + 1; m = m + m; out_port = m as 16; } table u { key m : exact;"
                + " actions f; default f (); room 1 ways 1 stash 0; }", "apply u;", 0, 1);
        Works.due("in order", y.out(0, 2), 4);
    }

    private static void emitted() {
        Works.sentence("MEANING: what EMIT names, in that order, as far as it is VALID, then the PAYLOAD");
        String text = HEAD + "state s { extract x; extract t; goto accept; } control { take y; } emit ";
        String[] lists = {"t, x", "x, t", "x", "t", "y", "y, v", "v, t, y, x"};
        String[] want = {"21010203", "01020321", "010203", "21", "", "", "21010203"};
        for (int i = 0; i < lists.length; i++) {
            PacketWorks x = Works.laid(text + lists[i] + ";");
            Works.send(x, 0, 1, 2, 3, 0x21, 0x99);
            x.run(2);
            Works.dueBytes("emit " + lists[i], x, 0, want[i] + "99");
        }
    }
}
