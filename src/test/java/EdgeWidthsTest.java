/** Boundary cases of the term WIDTHS: what fits, slices, joins, shifts, and where a width's fault is told. */
public final class EdgeWidthsTest {
    private static final String HEAD = "header h { a : 8; b : 1; c : 7; } use x : h; meta m : 8; meta n : 7; meta o : 1;"
            + " meta q : 64; meta s : 63; array r : 8 [4]; ";
    private static final String[] ALIKE = {"+", "-", "&", "|", "^"};
    private static final String[] COMPARED = {"==", "!=", "<", "<=", ">", ">="};

    public static void main(String[] args) {
        numbersOfEachWidth();
        numbersBesideOperands();
        numbersOfChoices();
        numbersForPlaces();
        numbersOfCases();
        numbersOfOneBit();
        sixtyFourElse();
        numbersInBrackets();
        operandsOfOneWidth();
        widthsOfAnswers();
        oneBit();
        shifts();
        joins();
        slices();
        cuts();
        conditions();
        whatIsPut();
        Works.done();
    }

    private static void fine(String block) {
        Works.fine(HEAD + "control { " + block + " } emit x;");
    }

    private static void fault(String block) {
        fault(7, block);
    }

    private static void fault(int kind, String block) {
        Works.fault(kind, HEAD + "control { " + block + " } emit x;");
    }

    /** The greatest number of a width, and the one behind it. */
    private static String greatest(int width) {
        return "0x" + Long.toHexString(width == 64 ? -1L : (1L << width) - 1);
    }

    private static String tooGreat(int width) {
        return "0x" + Long.toHexString(1L << width);
    }

    private static void numbersOfEachWidth() {
        Works.sentence("WIDTHS: a NUMBER must fit (else 7 at it)");
        for (int width = 1; width <= 64; width++) {
            String head = HEAD + "meta z : " + width + "; control { z = ";
            Works.fine(head + greatest(width) + "; } emit x;");
            Works.fine(head + "0; } emit x;");
            if (width < 64) {
                Works.fault(7, head + "@" + tooGreat(width) + "; } emit x;");
                Works.fault(7, head + "@0xffffffffffffffff; } emit x;");
                Works.fault(7, head + "@0x8000000000000000; } emit x;");
            }
        }
    }

    private static void numbersBesideOperands() {
        Works.sentence("WIDTHS: a NUMBER has the width of the other operand of + - & | ^ == and the like");
        for (String sign : ALIKE) {
            fine("m = m " + sign + " 255; m = 255 " + sign + " m; n = n " + sign + " 127; o = 1 " + sign + " o;");
            fault("m = m " + sign + " @256;");
            fault("m = @256 " + sign + " m;");
            fault("n = n " + sign + " @128;");
            fault("o = @2 " + sign + " o;");
            fine("q = q " + sign + " 0xffffffffffffffff;");
            fault("s = s " + sign + " @0x8000000000000000;");
        }
        for (String sign : COMPARED) {
            fine("o = m " + sign + " 255; o = 255 " + sign + " m; o = n " + sign + " 127; o = 1 " + sign + " o;");
            fault("o = m " + sign + " @256;");
            fault("o = @256 " + sign + " m;");
            fault("o = n " + sign + " @128;");
            fault("o = @2 " + sign + " o;");
        }
        fine("m = m + 255 + 255;");
        fault("m = m + 255 + @256;");
        fault("m = 1 + 2 + @m;");
    }

    private static void numbersOfChoices() {
        Works.sentence("WIDTHS: a NUMBER has the width of what it stands beside in ? :");
        fine("m = o ? 255 : m; m = o ? m : 255;");
        fault("m = o ? @256 : m;");
        fault("m = o ? m : @256;");
        fine("m = o ? 255 : o ? 255 : m;");
        fault("m = o ? @256 : o ? 255 : m;");
        fault("m = o ? 255 : o ? @256 : m;");
        fault("m = o ? m : @o ? 1 : 2;");
        fine("q = o ? 1 : 2; q = o ? q : o ? 1 : 2;");
        fault("m = @o ? 1 : 2;");
    }

    private static void numbersForPlaces() {
        Works.sentence("WIDTHS: a NUMBER has the width of the PLACE, parameter, array it is for");
        fine("x.a = 255; x.b = 1; x.c = 127; out_port = 65535; store r [0] 255;");
        fault("x.a = @256;");
        fault("x.b = @2;");
        fault("x.c = @128;");
        fault("out_port = @65536;");
        fault("store r [0] @256;");
        String table = HEAD + "action f (p : 1, s : 7, t : 63, u : 64) { } table t { key m : exact; actions f; default f (";
        String rest = "); room 1 ways 1 stash 0; } control { } emit x;";
        Works.fine(table + "1, 127, 0x7fffffffffffffff, 0xffffffffffffffff" + rest);
        Works.fault(7, table + "@2, 127, 0, 0" + rest);
        Works.fault(7, table + "1, @128, 0, 0" + rest);
        Works.fault(7, table + "1, 127, @0x8000000000000000, 0" + rest);
        Works.fault(7, table + "@2" + rest);
    }

    private static void numbersOfCases() {
        Works.sentence("WIDTHS: both numbers of a case have the width of select's EXPR");
        String select = HEAD + "state t { select ";
        String rest = " : accept; default : accept; } } control { } emit x;";
        Works.fine(select + "m { 255 & 255" + rest);
        Works.fault(7, select + "m { @256 & 255" + rest);
        Works.fault(7, select + "m { 255 & @256" + rest);
        Works.fault(7, select + "m { @256" + rest);
        Works.fault(7, select + "o { @2" + rest);
        Works.fine(select + "o { 1" + rest);
        Works.fine(select + "m == 9 { 1 & 1" + rest);
        Works.fault(7, select + "m == 9 { 1 & @2" + rest);
        Works.fine(select + "s { 0x7fffffffffffffff & 0x7fffffffffffffff" + rest);
        Works.fault(7, select + "s { @0x8000000000000000" + rest);
        Works.fine(select + "q { 0xffffffffffffffff & 0xffffffffffffffff" + rest);
        Works.fine(select + "5 { 0xffffffffffffffff & 0xffffffffffffffff" + rest);
        Works.fine(select + "(5) { 0xffffffffffffffff" + rest);
    }

    private static void numbersOfOneBit() {
        Works.sentence("WIDTHS: a NUMBER has 1 bit where one is wanted");
        fine("if 0 { } if 1 { } if (1) { } o = !1; o = 1 && 0; o = 1 || 0; m = 1 ? m : m; o = o && 1; o = 0 || o;");
        fault("if @2 { }");
        fault("if @0xffffffffffffffff { }");
        fault("o = !@2;");
        fault("o = @2 && o;");
        fault("o = o && @2;");
        fault("o = @2 || o;");
        fault("o = o || @2;");
        fault("m = @2 ? m : m;");
    }

    private static void sixtyFourElse() {
        Works.sentence("WIDTHS: else 64 (two of them side by side)");
        for (String sign : ALIKE) {
            fine("q = 0xffffffffffffffff " + sign + " 0xffffffffffffffff;");
            fault("m = @1 " + sign + " 2;");
        }
        for (String sign : COMPARED) {
            fine("o = 0xffffffffffffffff " + sign + " 0xffffffffffffffff;");
        }
        fine("q = 1 + 2 + q;");
        fault("m = 1 + 2 + @m;");
        Works.sentence("WIDTHS: else 64 (behind ~ or -)");
        fine("q = ~5; q = -0xffffffffffffffff;");
        fault("m = @~5;");
        fault("m = @-5;");
        fault("m = m + @-5;");
        fault("m = m + @~5;");
        fault("m = ~5 + @m;");
        Works.sentence("WIDTHS: else 64 (on either side of << >>)");
        fine("q = 1 << 0xffffffffffffffff; m = m << 0xffffffffffffffff; m = m >> 256; q = 0xffffffffffffffff >> m;");
        fault("m = @1 << m;");
        fault("m = @1 >> 1;");
        fault("m = m + @(1 << m);");
        Works.sentence("WIDTHS: else 64 (sliced, or with as)");
        fine("m = 0xffffffffffffffff[63:56]; m = 0xffffffffffffffff as 8; q = 5 as 64;");
        fault("q = 5[@64:1];");
        Works.sentence("WIDTHS: else 64 (a key, select's EXPR, an index)");
        fine("store r [0xffffffffffffffff] 1; load m r [0xffffffffffffffff];");
        PacketWorks x = Works.laid(HEAD + "action f () { } table t { key 1 : exact; key (2) : exact; actions f; default f ();"
                + " room 1 ways 1 stash 0; } control { apply t; } emit x;");
        Works.due("wires of two keys that are NUMBERs", x.stage(0, 2), 128);
    }

    private static void numbersInBrackets() {
        Works.sentence("WIDTHS: a NUMBER (also in ( ))");
        fine("m = (255); m = ((255)) + m; m = m + (((255))); o = (1) && o; m = o ? (255) : m; o = !(1);");
        fault("m = @(256);");
        fault("m = @((256));");
        fault("m = m + @((256));");
        fault("m = @( 256 ) + m;");
        fault("o = !@(2);");
        fault("m = @(1) ++ m;");
        fault("m = m ++ @((1));");
        fault("if @(2) { }");
        fine("q = (1) + (2); q = ~(5);");
    }

    private static void operandsOfOneWidth() {
        Works.sentence("WIDTHS: + - & | ^ two of one width; == != < <= > >= two of one width (of two the second one)");
        for (String sign : ALIKE) {
            fine("m = m " + sign + " x.a;");
            fault("m = m " + sign + " @n;");
            fault("n = n " + sign + " @m;");
            fault("q = q " + sign + " @s;");
            fault("m = (m) " + sign + " @(n);");
            fault("m = m " + sign + " @~n;");
        }
        for (String sign : COMPARED) {
            fault("o = m " + sign + " @n;");
            fault("o = o " + sign + " @m;");
            fault("o = q " + sign + " @(s);");
        }
        Works.sentence("WIDTHS: ? : two of one width");
        fault("m = o ? m : @n;");
        fault("m = o ? n : @m;");
        fault("m = o ? m : @(n);");
    }

    private static void widthsOfAnswers() {
        Works.sentence("WIDTHS: + - & | ^ ? : have the width of their operands");
        for (String sign : ALIKE) {
            fine("n = n " + sign + " 1; n = 1 " + sign + " n; q = 1 " + sign + " 1;");
            fault("m = @n " + sign + " 1;");
            fault("m = @1 " + sign + " n;");
        }
        fine("n = o ? n : 1; n = o ? 1 : n;");
        fault("m = @o ? n : 1;");
        Works.sentence("WIDTHS: == != < <= > >= && || ! valid: 1");
        for (String sign : COMPARED) {
            fine("o = q " + sign + " q;");
            fault("q = @q " + sign + " q;");
        }
        fault("m = @o && o;");
        fault("m = @o || o;");
        fault("m = @!o;");
        fault("m = @valid x;");
        fine("o = valid x;");
        Works.sentence("WIDTHS: ~ and - its own");
        fine("n = ~n; n = -n; o = ~o; o = -o;");
        fault("m = @~n;");
        fault("m = @-n;");
    }

    private static void oneBit() {
        Works.sentence("WIDTHS: && || ! 1 bit");
        fault("o = @m && o;");
        fault("o = o && @m;");
        fault("o = @m || o;");
        fault("o = o || @m;");
        fault("o = !@m;");
        fault("o = !@(m);");
        fault("o = !@~m;");
        fault("o = @m && n;");
        fault("o = @n || 2;");
    }

    private static void shifts() {
        Works.sentence("WIDTHS: << >>: the left one's");
        for (String sign : new String[] {"<<", ">>"}) {
            fine("m = m " + sign + " q; m = m " + sign + " o; n = n " + sign + " m; o = o " + sign + " q;");
            fault("m = @n " + sign + " m;");
            fault("n = @m " + sign + " n;");
            fine("q = 1 " + sign + " o;");
            fault("o = @1 " + sign + " o;");
        }
    }

    private static void joins() {
        Works.sentence("WIDTHS: ++ both together, at most 64 (of two the second one)");
        fine("q = s ++ o; q = o ++ s; m = x.b ++ x.c; q = m ++ m ++ m ++ m ++ m ++ m ++ m ++ m;");
        fault("q = q ++ @o;");
        fault("q = o ++ @q;");
        fault("q = s ++ @m;");
        fault("q = q ++ @(q);");
        fault("q = m ++ m ++ m ++ m ++ m ++ m ++ m ++ m ++ @o;");
        fault("q = o ++ m ++ m ++ m ++ m ++ m ++ m ++ m ++ @m;");
        fault("m = @x.b ++ x.c ++ o;");
        Works.sentence("WIDTHS: ++ none a NUMBER (7 at it; ~5 and 5 as 8 are none)");
        fault("m = @1 ++ n;");
        fault("m = n ++ @1;");
        fault("m = @1 ++ 1;");
        fault("q = @1 ++ q;");
        fault("q = q ++ @1;");
        fault("m = x.b ++ x.c ++ @1;");
        fault("q = ~5 ++ @o;");
        fine("out_port = 5 as 8 ++ m; out_port = m ++ 5 as 8; q = (~5)[62:0] ++ o; m = 5[6:0] ++ o; q = s ++ 5 as 1;");
        fine("q = (1 + 2)[31:0] ++ (1 == 1 ? 1 : 2)[31:0];");
        fault("m = o ++ @7 ++ o;");
    }

    private static void slices() {
        Works.sentence("WIDTHS: [ h : l ] h not below l, h below the width (of a slice at h)");
        fine("m = m[7:0]; o = m[0:0]; o = m[7:7]; o = o[0:0]; q = q[63:0]; o = q[63:63]; s = q[63:1]; s = q[62:0];");
        fault("m = m[@8:0];");
        fault("m = m[@8:8];");
        fault("o = o[@1:0];");
        fault("o = o[@1:1];");
        fault("q = q[@64:0];");
        fault("m = m[@0:1];");
        fault("m = m[@6:7];");
        fault("m = m[@7:8];");
        fault("m = m[@0xffffffffffffffff:0];");
        fault("m = m[@0x8000000000000000:0];");
        fault("m = m[@7:0xffffffffffffffff];");
        fault("m = m[@7:0x8000000000000000];");
        fault("m = m[@0x100000007:0];");
        fault("m = m[@7:0x100000000];");
        fault("m = m[7:4][@4:0];");
        fine("o = m[7:4][3:3];");
        Works.sentence("WIDTHS: [ h : l ]: h - l + 1");
        for (int high = 0; high < 8; high++) {
            for (int low = 0; low <= high; low++) {
                String slice = "m[" + high + ":" + low + "]";
                Works.fine(HEAD + "meta z : " + (high - low + 1) + "; control { z = " + slice + "; } emit x;");
                Works.fault(7, HEAD + "meta z : " + (high - low + 2) + "; control { z = @" + slice + "; } emit x;");
            }
        }
    }

    private static void cuts() {
        Works.sentence("WIDTHS: as N: cut, or with noughts ahead: N");
        for (int width = 1; width <= 64; width++) {
            Works.fine(HEAD + "meta z : " + width + "; control { z = m as " + width + "; z = 5 as " + width + "; } emit x;");
            Works.fault(7, HEAD + "meta z : " + width + "; control { z = @m as " + (width == 64 ? 63 : width + 1) + "; }");
        }
        for (String width : new String[] {"0", "65", "0x100000008", "0x8000000000000008", "0xffffffffffffffff"}) {
            fault(5, "m = m as @" + width + ";");
        }
    }

    private static void conditions() {
        Works.sentence("WIDTHS: if and ? : 1 bit");
        fine("if o { } if valid x { } if m == 1 { } m = o ? m : m; m = x.b ? m : m;");
        fault("if @m { }");
        fault("if @q { }");
        fault("if @(m) { }");
        fault("if @1 + 1 { }");
        fault("if @-1 { }");
        fault("m = @m ? m : m;");
        fault("m = @(q) ? m : m;");
    }

    private static void whatIsPut() {
        Works.sentence("WIDTHS: What is put into a PLACE, a parameter, an array has its width; an index has any");
        fault("m = @n;");
        fault("n = @m;");
        fault("x.a = @o;");
        fault("out_port = @m;");
        fault("store r [0] @n;");
        fault("store r [0] @q;");
        fine("load m r [o]; load x.a r [q]; store r [n] m; store r [x.b] x.a;");
        Works.sentence("FAULTS: 7 of load at the array's name");
        fault("load n @r [0];");
        fault("load q @r [0];");
        fault("load x.b @r [0];");
        fault("load out_port @r [0];");
    }
}
