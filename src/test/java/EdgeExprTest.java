/** Boundary cases of the term PROGRAM in EXPRs: 24 in one another, 800 NODES, what may stand in each. */
public final class EdgeExprTest {
    private static final String HEAD = "header h { a : 8; } use x : h; meta m : 8; meta o : 1; meta q : 64; array r : 8 [4]; ";

    public static void main(String[] args) {
        inBrackets();
        behindColons();
        behindSigns();
        mixed();
        allSignsInEach();
        depthComesBack();
        nodesAtMost();
        theNodeTooMany();
        whatIsNoNode();
        choices();
        comparisons();
        fromLeftToRight();
        unaries();
        atoms();
        Works.done();
    }

    private static void fine(int nodes, String block) {
        Works.due("nodes of " + block, Works.fine(HEAD + "control { " + block + " } emit x;"), nodes);
    }

    private static void fault(int kind, String block) {
        Works.fault(kind, HEAD + "control { " + block + " } emit x;");
    }

    private static String open(int n) {
        return "(".repeat(n);
    }

    private static String close(int n) {
        return ")".repeat(n);
    }

    private static void inBrackets() {
        Works.sentence("PROGRAM: 24 EXPRs in one another (the outermost is the first; one more by each ( )");
        fine(1, "m = " + open(23) + "m" + close(23) + ";");
        fault(4, "m = " + open(24) + "@m" + close(24) + ";");
        fault(4, "m = " + open(24) + "  @255" + close(24) + ";");
        fault(4, "m = " + open(24) + "@x.a" + close(24) + ";");
        fault(4, "o = " + open(24) + "@valid x" + close(24) + ";");
        fault(4, "m = " + open(24) + "@(m" + close(25) + ";");
        fault(4, "m = " + open(24) + "@-m" + close(24) + ";");
        fault(4, "m = " + open(24) + "@nothing" + close(24) + ";");
        fine(1, "if " + open(23) + "o" + close(23) + " { }");
        fault(4, "if " + open(24) + "@o" + close(24) + " { }");
        fine(2, "store r [" + open(23) + "m" + close(23) + "] " + open(23) + "m" + close(23) + ";");
        fault(4, "store r [" + open(24) + "@m" + close(24) + "] 1;");
        fault(4, "load m r [" + open(24) + "@m" + close(24) + "];");
        Works.fault(4, HEAD + "state s { select " + open(24) + "@m");
        Works.fault(4, HEAD + "action f () { } table t { key " + open(24) + "@m");
        Works.fault(4, HEAD + "action f (p : 8) { m = " + open(24) + "@p");
    }

    private static void behindColons() {
        Works.sentence("PROGRAM: one more by what stands behind the : of ? :");
        fine(70, "m = " + "o ? m : ".repeat(23) + "m;");
        fault(4, "m = " + "o ? m : ".repeat(24) + "@m;");
        fault(4, "m = " + "o ? m : ".repeat(24) + "@o ? m : m;");
        fault(4, "m = " + "o ? m : ".repeat(24) + "@255;");
        Works.sentence("PROGRAM: not by what stands ahead of the ? or between ? and :");
        fine(4, "m = " + open(23) + "o" + close(23) + " ? m : m;");
        fine(4, "m = o ? " + open(23) + "m" + close(23) + " : m;");
        fine(4, "m = o ? m : " + open(22) + "m" + close(22) + ";");
        fault(4, "m = o ? " + open(24) + "@m" + close(24) + " : m;");
        fault(4, "m = o ? m : " + open(23) + "@m" + close(23) + ";");
    }

    private static void behindSigns() {
        Works.sentence("PROGRAM: one more by each UNARY sign; a 25th: 4 at the sign");
        for (String sign : new String[] {"~", "-"}) {
            fine(24, "m = " + sign.repeat(23) + "m;");
            fault(4, "m = " + sign.repeat(23) + "@" + sign + "m;");
        }
        fine(24, "o = " + "!".repeat(23) + "o;");
        fault(4, "o = " + "!".repeat(23) + "@!o;");
        fault(4, "o = " + "!".repeat(23) + "@~;");
        fault(4, "m = " + "-".repeat(23) + " @- m;");
    }

    private static void mixed() {
        Works.sentence("PROGRAM: 24 EXPRs in one another, by brackets, signs and colons together");
        fine(12, "m = " + "~(".repeat(11) + "m" + close(11) + ";");
        fine(13, "m = " + "~(".repeat(11) + "~m" + close(11) + ";");
        fault(4, "m = " + "~(".repeat(11) + "~(@m" + close(12) + ";");
        fault(4, "m = (" + "~(".repeat(11) + "@~m" + close(12) + ";");
        fault(4, "m = " + "(o ? m : ~".repeat(7) + "(((@m" + close(10) + ";");
        fine(29, "m = " + "(o ? m : ~".repeat(7) + "((m" + close(9) + ";");
    }

    private static void allSignsInEach() {
        Works.sentence("PROGRAM: 24 EXPRs in one another, in each all signs");
        String head = HEAD + "meta t : 2; control { o = ";
        String each = "o ? o || o && o == o | o ^ o & o << t + o ++ (";
        String end = "o" + ") : o".repeat(23) + "; } emit x;";
        Works.due("23 brackets", Works.fine(head + each.repeat(23) + end), 23 * 21 + 1);
        Works.fault(4, head + each.repeat(24) + "@" + end);
        String last = each.substring(4, each.length() - 1);
        Works.due("all signs in the 24th, too", Works.fine(head + each.repeat(23) + last + end), 23 * 21 + 19);
        Works.fault(4, head + each.repeat(23) + "o ? " + last + "o : @o" + ") : o".repeat(23) + "; } emit x;");
    }

    private static void depthComesBack() {
        Works.sentence("PROGRAM: in one another, not side by side");
        fine(3, "m = " + open(23) + "m" + close(23) + " + " + open(23) + "m" + close(23) + ";");
        fine(49, "m = " + "~".repeat(23) + "m + " + "~".repeat(23) + "m;");
        fine(8, "m = (o ? m : m) + " + open(23) + "m" + close(23) + " + 1;");
        fine(100, "m = m" + " + ~m".repeat(33) + ";");
    }

    /** As many nodes as are asked for, all in one EXPR of 64 bits; an odd number. */
    private static String sum(int nodes) {
        return "1" + "+1".repeat(nodes / 2);
    }

    private static void nodesAtMost() {
        Works.sentence("PROGRAM: 800 NODES");
        fine(799, "q = " + sum(799) + ";");
        fine(800, "q = " + sum(797) + "; if o { } q = 1; m = 2;");
        fine(800, "q = -(" + sum(799) + ");");
        fine(800, "q = " + sum(799) + "; o = 1;");
    }

    private static void theNodeTooMany() {
        Works.sentence("FAULTS: 4 of a node at the word that is read next, or the end");
        String full = "q = " + sum(797) + "; q = 1; q = 2; q = 3; ";
        fine(800, full);
        fault(4, full + "m = 1@;");
        fault(4, full + "m = 1 @+ 1;");
        fault(4, full + "m = m@;");
        fault(4, full + "m = x.a   @;");
        fault(4, full + "o = valid x@;");
        fault(4, full + "load m r [1@];");
        fault(4, full + "store r [m@] m;");
        fault(4, full + "if o @{ }");
        fault(4, full + "m = (m@);");
        fault(4, full + "m = ~m@;");
        Works.fault(4, HEAD + "control { " + full + "m = 1@");
        Works.fault(4, HEAD + "control { " + full + "m = 1  \n@");
        String oneLeft = "q = " + sum(797) + "; q = 1; q = 2; ";
        fault(4, oneLeft + "m = ~m@;");
        fault(4, oneLeft + "m = -m@;");
        fault(4, oneLeft + "o = !o@;");
        fault(4, oneLeft + "m = m as 8@;");
        fault(4, oneLeft + "m = m[7:0]@;");
        fault(4, oneLeft + "m = m + m@;");
        fault(4, oneLeft + "m = m + m @+ m;");
        String threeLeft = "q = " + sum(797) + "; ";
        fine(800, threeLeft + "m = m + 1;");
        fault(4, threeLeft + "m = o ? m : m@;");
        fault(4, threeLeft + "m = (o ? m : m@);");
        fault(4, threeLeft + "m = m + m + m@;");
        Works.fault(4, HEAD + "action f (p : 8) { " + full + "m = p@; }");
        Works.fault(4, HEAD + "action f () { " + full + "} state s { select m @{");
        Works.fault(4, HEAD + "action f () { " + full + "} table t { key m @: exact");
        Works.fault(2, HEAD + "control { " + full + "m = 1@$");
    }

    private static void whatIsNoNode() {
        Works.sentence("PROGRAM: NODES are not the numbers of slices and as, of cases and defaults");
        fine(2, "m = q[7:0];");
        fine(2, "m = q as 8;");
        fine(3, "m = q[15:0][7:0];");
        fine(0, "add x; take x; drop;");
        Works.due("cases", Works.fine(HEAD + "state s { select m { 1 : accept; 2 & 3 : reject; default : accept; } }"
                + " control { } emit x;"), 1);
        Works.due("defaults", Works.fine(HEAD + "action f (p : 8, s : 8) { } table t { key m : exact; actions f;"
                + " default f (1, 2); room 16 ways 4 stash 8; } control { apply t; } emit x;"), 1);
        Works.sentence("PROGRAM: NODES are each number, place, parameter, valid, sign, ? : , slice, as");
        fine(1, "m = 1;");
        fine(1, "m = x.a;");
        fine(1, "m = m;");
        fine(1, "o = valid x;");
        fine(1, "m = ((m));");
        fine(4, "m = o ? m : 1;");
        fine(2, "load m r [-1];");
        fine(2, "store r [0] m;");
        Works.due("a parameter", Works.fine(HEAD + "action f (p : 8) { m = p; } control { } emit x;"), 1);
        for (String sign : new String[] {"+", "-", "&", "|", "^", "<<", ">>"}) {
            fine(3, "m = m " + sign + " m;");
        }
        for (String sign : new String[] {"==", "!=", "<", "<=", ">", ">=", "&&", "||"}) {
            fine(3, "o = o " + sign + " o;");
        }
        fine(5, "m = m[7:4] ++ m[3:0];");
        fine(2, "o = !o;");
        fine(2, "m = ~m;");
        fine(2, "m = -m;");
    }

    private static void choices() {
        Works.sentence("PROGRAM: ORs with ? OR : CHOICE behind, perhaps");
        fault(1, "m = o ? o @? m : m : m;");
        fine(7, "m = o ? m : o ? m : m;");
        fine(7, "m = o ? (o ? m : m) : m;");
        fine(6, "m = o || o ? m : m;");
        fault(1, "m = o ? m@;");
        fault(1, "m = o ? @: m;");
        fault(1, "m = @? m : m;");
        fault(1, "m = m @: m;");
        fault(1, "m = (o ? m@) : m;");
    }

    private static void comparisons() {
        Works.sentence("PROGRAM: SAME == != < <= > >= (one at most)");
        String[] signs = {"==", "!=", "<", "<=", ">", ">="};
        for (String first : signs) {
            for (String second : signs) {
                fault(1, "o = o " + first + " o @" + second + " o;");
                fine(5, "o = (o " + first + " o) " + second + " o;");
            }
        }
        fine(7, "o = m == m && m < m;");
        fine(7, "o = m == m || m < m;");
    }

    private static void fromLeftToRight() {
        Works.sentence("PROGRAM: each of the next with its signs between, from left to right");
        for (String sign : new String[] {"+", "-", "&", "|", "^", "<<", ">>"}) {
            fine(7, "m = m " + sign + " m " + sign + " m " + sign + " m;");
        }
        fine(7, "o = o || o && o || o;");
        fine(11, "m = m[1:0] ++ m[1:0] ++ m[3:2] ++ m[1:0];");
    }

    private static void unaries() {
        Works.sentence("PROGRAM: UNARY: ~ ! - ahead of a UNARY, or an ATOM with any number of [ : ] or as N behind");
        fine(4, "m = ~-~m;");
        fine(9, "m = q[63:0][62:0][61:0] as 33 as 44[43:4] as 1 as 8;");
        fine(10, "m = m" + " as 8".repeat(9) + ";");
        fault(1, "m = @+ m;");
        fault(1, "m = m @m;");
        fault(1, "m = m @~ m;");
        fault(1, "m = m @! m;");
        fault(1, "m = ~@;");
    }

    private static void atoms() {
        Works.sentence("PROGRAM: ATOM: NUMBER, PLACE (in_port and length, too), a PARAMETER, valid NAME, ( EXPR )");
        fine(3, "out_port = in_port + length;");
        fault(1, "m = (@);");
        fault(1, "m = @[7:0];");
        fault(1, "m = @as 8;");
        fault(1, "o = valid @1;");
        fault(1, "o = valid x@.a;");
        fault(6, "o = valid @m;");
        fault(6, "m = @r;");
        fault(1, "m = m[@];");
        fault(1, "m = m[7@];");
        fault(1, "m = m[7:@];");
        fault(1, "m = m[7:0@;");
        fault(1, "m = m[7@,0];");
        fault(1, "m = m[@(7):0];");
        fault(1, "m = m as @(8);");
        fault(1, "m = m as @;");
    }
}
