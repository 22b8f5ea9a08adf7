/** Boundary cases of the term FAULTS: each kind with its place, and which is ahead of which. */
public final class EdgeFaultsTest {
    private static final String HEAD = "header h { a : 8; b : 1; c : 7; } use x : h; use y : h; meta m : 8; meta o : 1;"
            + " meta q : 64; array r : 8 [4]; ";
    private static final String ACTIONS = "action f () { } action g (p : 4, s : 8) { } ";
    private static final String TABLE = "table t { key m : exact; actions f; default f (); room 1 ways 1 stash 0; } ";
    private static final String END = " control { } emit x;";

    /** A text in which a word more between any two is a fault at that word, and so is the end there. */
    private static final String WHOLE = "header h { a : 8 ; b : 16 ; } use x : h ; meta m : 8 ; meta o : 1 ; array r : 8 [ 4 ] ;"
            + " state s { extract x ; select ( x . a + 1 ) { 1 : u ; 2 & 3 : accept ; default : reject ; } }"
            + " state u { goto accept ; } action f ( p : 8 , s : 4 ) { x . a = ( p [ 7 : 4 ] ++ s ) ; load m r [ 3 ] ;"
            + " store r [ m ] m ; add x ; take x ; drop ; } action g ( ) { }"
            + " table t { key x . a : exact ; key ( m ) : exact ; actions f , g ; default f ( 1 , 2 ) ; room 4 ways 2 stash 0 ; }"
            + " table v { key m : masked ; actions g ; default g ( ) ; room 3 ; }"
            + " control { if ( valid x && ! o ) { apply t ; } else { m = ( o ? 1 : ~ m as 8 ) ; } if o { } drop ; } emit x ;";

    public static void main(String[] args) {
        theEnd();
        whatCannotStand();
        wordsThatAreNone();
        namesAnew();
        oneTooManyIsAhead();
        anotherSort();
        rules();
        headerBits();
        parametersNumber();
        toldBehindTheLastWord();
        widthsAheadOfTheNext();
        nodesAndWhatIsAhead();
        statesNotThere();
        statesThatComeToThemselves();
        Works.done();
    }

    private static void fault(int kind, String marked) {
        Works.fault(kind, marked);
    }

    private static void fine(String text) {
        Works.fine(text);
    }

    private static void inControl(int kind, String block) {
        Works.fault(kind, HEAD + ACTIONS + TABLE + "control { " + block);
    }

    private static void inTable(int kind, String lines) {
        Works.fault(kind, HEAD + ACTIONS + "table u { " + lines);
    }

    private static void theEnd() {
        Works.sentence("FAULTS: 1 the end where more must (at it: the text's length)");
        fine(WHOLE);
        String[] words = WHOLE.split(" ");
        StringBuilder text = new StringBuilder();
        for (String word : words) {
            fault(1, text + "@");
            fault(1, text + "\n   @");
            text.append(word).append(' ');
        }
        fine(text.toString());
    }

    private static void whatCannotStand() {
        Works.sentence("FAULTS: 1 what can't stand there (at it)");
        String[] words = WHOLE.split(" ");
        for (int i = 0; i <= words.length; i++) {
            boolean room = i > 1 && words[i - 2].equals("room");
            String strange = room ? "emit" : "ways";
            fault(1, with(words, i, "@" + strange));
        }
    }

    /** The words with one more ahead of that of an index. */
    private static String with(String[] words, int index, String more) {
        StringBuilder text = new StringBuilder();
        for (int i = 0; i <= words.length; i++) {
            text.append(i == index ? more + " " : "").append(i < words.length ? words[i] + " " : "");
        }
        return text.toString();
    }

    private static void wordsThatAreNone() {
        Works.sentence("FAULTS: 2 a word that is none, or too long (at its beginning); at one byte 2 is ahead of all");
        String[] words = WHOLE.split(" ");
        for (int i = 0; i <= words.length; i++) {
            fault(2, with(words, i, "@$"));
            fault(2, with(words, i, "@abcdefghijklmnopq"));
            fault(2, with(words, i, "@1234567890123456789"));
            fault(2, with(words, i, "@0x"));
        }
        fault(2, "meta m : 8; meta @mmmmmmmmmmmmmmmmm : 8;");
        fault(2, Works.times(12, "header h# { a : 8; } ") + "header @hhhhhhhhhhhhhhhhh { a : 8; }");
        inControl(2, Works.times(48, "drop; ") + "@$");
        inControl(2, "m = " + "(".repeat(24) + "@$");
    }

    private static void namesAnew() {
        Works.sentence("FAULTS: 3 a NAME anew that is there (at it), all others together");
        String[] made = {"h", "x", "m", "r", "s", "f", "t", "in_port", "length", "out_port", "accept", "reject"};
        String all = HEAD + "state s { goto accept; } " + ACTIONS + TABLE;
        for (String name : made) {
            fault(3, all + "header @" + name + " { a : 8; }");
            fault(3, all + "use @" + name + " : h;");
            fault(3, all + "meta @" + name + " : 8;");
            fault(3, all + "array @" + name + " : 8 [1];");
            fault(3, all + "state @" + name + " { goto accept; }");
            fault(3, all + "action @" + name + " () { }");
            fault(3, all + "table @" + name + " { key m : exact;");
        }
        Works.sentence("FAULTS: 3 fields in their header");
        fault(3, "header h { a : 8; b : 8; @a : 8; }");
        fault(3, "header h { a : 8; b : 8; @b : 8; }");
        fine("header h { a : 8; h : 8; length : 8; accept : 8; } header g { a : 8; h : 8; } use a : h; use x : g;" + END);
        Works.sentence("FAULTS: 3 parameters in their action");
        fault(3, "action f (p : 8, @p : 8) { }");
        fault(3, "action f (p : 8, s : 8, t : 8, @p : 8) { }");
        fine(HEAD + "action f (f : 8, m : 8, x : 8, h : 8) { } action g (f : 8, m : 8) { }" + END);
        Works.sentence("FAULTS: 3 states also by being named; accept and reject are there");
        fault(3, HEAD + "state s { goto u; } meta @u : 8;");
        fault(3, HEAD + "state s { goto u; } header @u { a : 8; }");
        fault(3, HEAD + "state s { select m { 1 : u; default : v; } } action @v () { }");
        fault(3, HEAD + "state s { goto s; } state @s { goto s; }");
        fine(HEAD + "state s { goto u; } state u { goto accept; }" + END);
    }

    private static void oneTooManyIsAhead() {
        Works.sentence("FAULTS: At one byte 4 is ahead of 3 and 6");
        fault(4, Works.times(12, "header h# { a : 8; } ") + "header @h0 { a : 8; }");
        fault(4, "header h { a : 8; } " + Works.times(12, "use x# : h; ") + "use @x0 : h;");
        fault(4, Works.times(13, "meta m# : 8; ") + "meta @in_port : 8;");
        fault(4, Works.times(8, "array r# : 8 [1]; ") + "array @r7 : 8 [1];");
        fault(4, Works.times(16, "state s# { goto accept; } ") + "state @s15 { goto accept; }");
        fault(4, Works.times(16, "state s# { goto accept; } ") + "state @accept { goto accept; }");
        fault(4, Works.times(16, "state s# { goto accept; } ") + "state @in_port { goto accept; }");
        fault(4, Works.times(16, "action a# () { } ") + "action @a0 () { }");
        fault(4, HEAD + ACTIONS + Works.times(8, TABLE.replace("table t", "table t#")) + "table @t0 { key");
        fault(4, "header h { " + Works.times(16, "f# : 8; ") + "@f0 : 8; }");
        fault(4, "action a (p : 1, q : 1, r : 1, s : 1, @p : 1) { }");
        fault(4, HEAD + "action a () { " + Works.times(12, "drop; ") + "@nothing = 1; }");
        inControl(4, Works.times(48, "drop; ") + "@nothing = 1; }");
        inControl(4, "m = " + "(".repeat(24) + "@nothing");
        String eight = "key m : exact; actions a0, a1, a2, a3, a4, a5, a6, a7, ";
        fault(4, HEAD + Works.times(8, "action a# () { } ") + "table u { " + eight + "@nothing;");
        fault(4, HEAD + Works.times(8, "action a# () { } ") + "table u { " + eight + "@a0;");
        fault(4, Works.times(15, "state s# { goto accept; } ") + "state u { goto @v; }");
    }

    private static void anotherSort() {
        Works.sentence("FAULTS: a state's name that is of another sort: 6 at once, ahead of 4 there");
        for (String name : new String[] {"h", "x", "m", "r", "in_port", "f"}) {
            fault(6, HEAD + "action f () { } state s { goto @" + name + "; } $");
            fault(6, HEAD + "action f () { } state s { select m { 1 : @" + name + "; } } $");
            fault(6, HEAD + "action f () { } state s { select m { default : @" + name + "; } } $");
            fault(6, HEAD + "action f () { } " + Works.times(15, "state s# { goto accept; } ")
                    + "state s { goto @" + name + "; }");
        }
        Works.sentence("FAULTS: 6 a name that is not there, or of another sort (at it)");
        for (String name : new String[] {"nothing", "m", "r", "f", "t", "s", "accept", "in_port", "h"}) {
            String all = HEAD + "state s { goto accept; } " + ACTIONS + TABLE;
            fault(6, all + "state z { extract @" + name + "; goto accept; }");
            fault(6, all + "control { add @" + name + "; }");
            fault(6, all + "control { take @" + name + "; }");
            fault(6, all + "control { o = valid @" + name + "; }");
            fault(6, all + "control { } emit @" + name + ";");
            fault(6, all + (name.equals("h") ? "use z : @x;" : "use z : @" + name + ";"));
            fault(6, all + (name.equals("t") ? "control { apply @f; }" : "control { apply @" + name + "; }"));
            fault(6, all + (name.equals("r") ? "control { store @x" : "control { store @" + name + " [0] 1; }"));
            fault(6, all + (name.equals("f") ? "table z { key m : exact; actions @t;"
                    : "table z { key m : exact; actions @" + name + ";"));
            fault(6, all + (name.equals("f") ? "table z { key m : exact; actions f; default @t ();"
                    : "table z { key m : exact; actions f; default @" + name + " ();"));
            boolean meta = name.equals("m") || name.equals("in_port");
            fault(6, all + (meta ? "control { @r = 1; }" : "control { @" + name + " = 1; }"));
            fault(6, all + (meta ? "control { q = @r; }" : "control { q = @" + name + "; }"));
        }
        fault(6, HEAD + "control { x . @h = 1; }");
        fault(6, HEAD + "control { q = x . @x; }");
        fault(6, HEAD + "action a (p : 8) { } control { m = @p; }");
        fault(6, HEAD + "action a (p : 8) { } action b () { m = @p; }");
        fault(6, HEAD + "control { apply @t; } emit x; " + TABLE);
        Works.sentence("FAULTS: default may name any action");
        fine(HEAD + ACTIONS + "table u { key m : exact; actions f; default g (15, 255); room 1 ways 1 stash 0; }" + END);
    }

    private static void rules() {
        Works.sentence("FAULTS: 8 an action or instance twice in a list, a table applied twice (at the second)");
        inTable(8, "key m : exact; actions f, @f;");
        inTable(8, "key m : exact; actions f, g, @f;");
        inTable(8, "key m : exact; actions g, f, @f;");
        inControl(8, "apply t; apply @t; }");
        inControl(8, "if o { apply t; } else { drop; apply @t; } }");
        inControl(8, "} emit x, @x;");
        inControl(8, "} emit x, y, @y;");
        Works.sentence("FAULTS: 8 two prefix keys, or prefix and masked (at that key's KIND)");
        inTable(8, "key m : prefix; key m : @prefix;");
        inTable(8, "key m : prefix; key m : exact; key m : exact; key m : @prefix;");
        inTable(8, "key m : prefix; key m : @masked;");
        inTable(8, "key m : masked; key m : @prefix;");
        inTable(8, "key m : masked; key m : masked; key m : @prefix;");
        String rest = " actions f; default f (); room 1; }" + END;
        fine(HEAD + ACTIONS + "table u { key m : masked; key m : masked; key m : exact; key m : masked;" + rest);
        fine(HEAD + ACTIONS + "table u { key m : exact; key m : prefix; key m : exact;" + rest);
    }

    private static void headerBits() {
        Works.sentence("FAULTS: 8 a header's bits (at its name) when } is at hand");
        fault(8, "header @h { a : 7; }");
        fault(8, "header   @h\n{ a : 9; }");
        fault(8, "header @h { a : 7; }$");
        fault(8, "header @h { a : 7; } nothing");
        fault(2, "header h { a : 7; @$");
        fault(1, "header h { a : 7; @;");
        fault(1, "header h { a : 7; @");
        fault(3, "header h { a : 7; @a : 1; }");
        fault(5, "header h { a : 7; b : @0; }");
        fault(3, "header h { a : 8; } header @h { a : 7; }");
    }

    private static void parametersNumber() {
        Works.sentence("FAULTS: 8 parameters' number (at the action's name behind default) when ) is at hand");
        String start = "key m : exact; actions f; default ";
        inTable(8, start + "@g ();");
        inTable(8, start + "@g (1);");
        inTable(8, start + "@g (1, 2, 3);");
        inTable(8, start + "@g (1, 2, 3, 4, 5, 6);");
        inTable(8, start + "@f (1);");
        inTable(8, start + "@g (1)$");
        inTable(8, start + "@f (0) nothing");
        inTable(2, start + "g (1 @$");
        inTable(1, start + "g (1 @;");
        inTable(1, start + "g (1, @)");
        inTable(7, start + "g (@16)");
        inTable(7, start + "g (1, @256, 3)");
        inTable(1, start + "g (1@");
        fine(HEAD + ACTIONS + "table u { key m : exact; actions g; default f (); room 1 ways 1 stash 0; }" + END);
    }

    private static void toldBehindTheLastWord() {
        Works.sentence("FAULTS: 8 is told when the last word that it speaks of has been read, ahead of all of the next but 2");
        inTable(8, "key m : exact; actions f, @f nothing");
        inTable(8, "key m : exact; actions f, @f");
        inTable(8, "key m : exact; actions f, @f 99");
        inTable(2, "key m : exact; actions f, f @$");
        inTable(8, "key m : prefix; key m : @prefix header");
        inTable(8, "key m : prefix; key m : @masked");
        inTable(2, "key m : prefix; key m : masked @$");
        inControl(8, "apply t; apply @t apply");
        inControl(8, "apply t; apply @t");
        inControl(2, "apply t; apply t @$");
        inControl(8, "} emit x, @x emit");
        inControl(8, "} emit x, @x");
        inControl(2, "} emit x, x @$");
        Works.sentence("FAULTS: 3, 4, 5 and 6 are told at their word, ahead of all of the next");
        fault(3, "meta m : 8; meta @m $");
        fault(4, Works.times(12, "header h# { a : 8; } ") + "header @z $");
        fault(5, "meta m : @0 $");
        fault(5, "array r : 8 [ @65 $");
        inTable(5, "key m : exact; actions f; default f (); room @3 $");
        inTable(5, "key m : exact; actions f; default f (); room 1 ways @0 $");
        inTable(5, "key m : exact; actions f; default f (); room 1 ways 1 stash @9 $");
        inControl(5, "m = m as @0 $");
        fault(6, "use x : @h $");
        inControl(6, "add @nothing $");
        inControl(6, "m = @nothing $");
        inControl(6, "@length $");
        inControl(6, "m = x.@d $");
    }

    private static void widthsAheadOfTheNext() {
        Works.sentence("FAULTS: 7 is told when the last word that it speaks of has been read, ahead of all of the next but 2");
        inControl(7, "m = @256 nothing");
        inControl(7, "m = @256");
        inControl(2, "m = 256 @$");
        inControl(7, "m = @q )");
        inControl(7, "m = m + @q ] ");
        inControl(7, "m = m + @256 + nothing; }");
        inControl(2, "m = m + 256 @$");
        inControl(7, "load o @r nothing");
        inControl(7, "load o @r");
        inControl(2, "load o r @$");
        inControl(7, "store r [0] @q nothing");
        inControl(7, "if @m nothing");
        inControl(7, "if @m");
        inControl(2, "if m @$");
        inControl(7, "m = m[@8:0 nothing");
        inControl(7, "m = m[@0:1");
        inControl(2, "m = m[8:0 @$");
        fault(7, HEAD + "state s { select m { @256 nothing");
        fault(7, HEAD + "state s { select m { 1 & @256 nothing");
        fault(2, HEAD + "state s { select m { 256 @$");
        fault(2, HEAD + "state s { select m { 1 & 256 @$");
        inTable(7, "key m : exact; actions f; default g (@16 nothing");
        inTable(2, "key m : exact; actions f; default g (16 @$");
        Works.sentence("FAULTS: 7 what an operator wants is looked at when all its operands have been read, from left to right");
        inControl(6, "o = m && @nothing; }");
        inControl(6, "m = m ? m : @nothing; }");
        inControl(7, "m = @m ? m : q; }");
        inControl(7, "m = m + @q + nothing; }");
        inControl(7, "m = m + @q == nothing; }");
        inControl(6, "m = m + q ++ @nothing; }");
        inControl(7, "m = m + q ++ @o; }");
        inControl(7, "o = m && m == @q; }");
        inControl(7, "o = @m && m == m; }");
        inControl(6, "m = (@nothing) + 256; }");
        inControl(7, "m = (m + @256) + nothing; }");
        inControl(7, "m = o ? m + @256 : nothing; }");
        inControl(7, "m = @1 ++ 1 ++ nothing; }");
        inControl(6, "m = 1 ++ @nothing; }");
        Works.sentence("FAULTS: 7 at the first byte, a ( around it with it, of the EXPR that doesn't fit");
        inControl(7, "m = @(q); }");
        inControl(7, "m = @( ( q ) ); }");
        inControl(7, "m = @(q) + 1; }");
        inControl(7, "m = @(q + 1); }");
        inControl(7, "m = m + @(m ++ m); }");
        inControl(7, "m = m + @q[8:0]; }");
        inControl(7, "m = m + @(q)[8:0]; }");
        inControl(7, "m = m + @-q; }");
        inControl(7, "m = m + @-(q); }");
        inControl(7, "m = m + @valid x; }");
        inControl(7, "m = m + @x . b; }");
        inControl(7, "m = @o ? q : q; }");
        inControl(7, "m = @(o) ? q : q; }");
        inControl(7, "m = o ? m : @o ? q : q; }");
        inControl(7, "m = m - @(o ? q : q); }");
    }

    /** As inControl(), without a table, whose key would be a node. */
    private static void inBare(int kind, String block) {
        Works.fault(kind, HEAD + "control { " + block);
    }

    private static void nodesAndWhatIsAhead() {
        Works.sentence("FAULTS: 7 is ahead of the 4 of a node, which is told at the next word, and 2 ahead of both");
        String full = "q = 1" + "+1".repeat(398) + "; q = 1; q = 2; q = 3; ";
        inBare(4, full + "m = 1@; }");
        inBare(7, full + "m = @256; }");
        inBare(7, full + "m = @q; }");
        inBare(7, full + "if @m { } }");
        inBare(2, full + "m = 1 @$");
        inBare(2, full + "m = 256 @$");
        inBare(4, full + "m = 1 @nothing");
        inBare(4, full + "m = 1 @header");
        inBare(4, full + "m = 1@");
        inBare(6, full + "m = @nothing; }");
        inBare(1, full + "m = @; }");
        String oneLeft = "q = 1" + "+1".repeat(398) + "; q = 1; q = 2; ";
        inBare(7, oneLeft + "m = m + @256; }");
        inBare(7, oneLeft + "m = m + @q; }");
        inBare(7, oneLeft + "o = !@m; }");
        inBare(7, oneLeft + "m = @-q; }");
        inBare(7, oneLeft + "m = m[@8:0]; }");
        inBare(5, oneLeft + "m = m as @0; }");
    }

    private static void statesNotThere() {
        Works.sentence("FAULTS: 6 of states that are not there (the first of the text, where it is named first), when all is read");
        fault(6, HEAD + "state s { goto @u; }" + END);
        fault(6, HEAD + "state s { goto @u; } state v { goto u; } state w { goto z; }" + END);
        fault(6, HEAD + "state s { select m { 1 : accept; 2 : @u; default : z; } }" + END);
        fault(6, HEAD + "state s { select m { 1 : s2; default : @u; } } state s2 { goto z; }" + END);
        fault(6, HEAD + "state s { goto s2; } state s2 { goto @u; }" + END);
        fault(6, HEAD + "state s { goto s; } state v { goto @u; }" + END);
        fault(6, HEAD + "state s { goto @u; } state v { goto v; }" + END);
        fault(1, HEAD + "state s { goto u; }" + END + " @s");
        fault(6, HEAD + "state s { goto u; } control { m = @nothing; } emit x;");
        fault(8, HEAD + "state s { goto u; } control { } emit x, @x;");
        fault(2, HEAD + "state s { goto u; }" + END + " @$");
    }

    private static void statesThatComeToThemselves() {
        Works.sentence("FAULTS: 8 a state that comes to itself without an extract (the first in the order in which they stand)");
        fault(8, HEAD + "state @s { goto s; }" + END);
        fault(8, HEAD + "state @s { select m { 1 : s; default : accept; } }" + END);
        fault(8, HEAD + "state @s { select m { 1 : accept; default : s; } }" + END);
        fault(8, HEAD + "state @s { goto u; } state u { goto s; }" + END);
        fault(8, HEAD + "state s { goto u; } state @u { goto u; }" + END);
        fault(8, HEAD + "state s { goto b; } state @a { goto a; } state b { goto b; }" + END);
        fault(8, HEAD + "state s { extract x; goto u; } state u { goto v; } state @v { goto w; } state w { goto v; }" + END);
        fault(8, HEAD + Works.times(15, "state s# { goto z; } ") + "state @z { goto z; }" + END);
        String chain = "";
        for (int i = 0; i < 15; i++) {
            chain += "state s" + i + " { goto s" + (i + 1) + "; } ";
        }
        fault(8, HEAD + chain.replaceFirst("state s0", "state @s0") + "state s15 { goto s0; }" + END);
        fine(HEAD + chain + "state s15 { extract x; goto s0; }" + END);
        fine(HEAD + chain + "state s15 { goto accept; }" + END);
        fault(8, HEAD + chain.replaceFirst("state s7", "state @s7") + "state s15 { goto s7; }" + END);
        fine(HEAD + "state s { extract x; goto s; }" + END);
        fine(HEAD + "state s { extract x; goto u; } state u { goto s; }" + END);
        fine(HEAD + "state s { goto u; } state u { extract y; select m { 1 : s; default : u; } }" + END);
        fault(8, HEAD + "state s { extract x; goto u; } state @u { select m { 1 : s; default : u; } }" + END);
        fault(1, HEAD + "state s { goto s; }" + END + " @s");
        fault(8, HEAD + "state @s { goto s; }" + END + "   \n");
    }
}
