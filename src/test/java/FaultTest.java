/** Promise 5 with the terms WORDS, PROGRAM, WIDTHS and FAULTS: each fault, its place, and which one is ahead. */
public final class FaultTest {
    private static final String HEAD = "header h { a : 8; b : 1; c : 7; } use x : h; use y : h; meta m : 8; meta o : 1;"
            + " meta q : 64; array r : 8 [4]; ";
    private static final String ACTIONS = "action a () { } action b (p : 4, q : 8) { } ";

    public static void main(String[] args) {
        words();
        cannotStand();
        thereAlready();
        oneTooMany();
        badNumbers();
        notThere();
        widths();
        widthsOfOperators();
        rules();
        states();
        whichIsAhead();
        Works.done();
    }

    private static void fault(int kind, String marked) {
        Works.fault(kind, marked);
    }

    private static void inControl(int kind, String block) {
        fault(kind, HEAD + "control { " + block);
    }

    private static void inAction(int kind, String statements) {
        fault(kind, HEAD + "action a (p : 8, x : 8, out_port : 4) { " + statements);
    }

    private static void inTable(int kind, String lines) {
        fault(kind, HEAD + ACTIONS + "table t { " + lines);
    }

    private static void words() {
        fault(2, "@\theader");
        fault(2, "header @H { a : 8; }");
        fault(2, "header h@\r");
        fault(2, "header @_h { a : 8; }");
        fault(2, "header h { a : 8; } @*");
        fault(2, "header @abcdefghijklmnopq { a : 8; }");
        fault(2, "header h { a : @0x; }");
        fault(2, "header h { a : @0xg; }");
        fault(2, "header h { a : @0x00000000000000008; }");
        fault(2, "header h { a : @0000000000000000008; }");
        fault(2, "header h { a : 8; } @\0");
        fault(2, "header h { a : 8; } @\u00ff");
        fault(1, "header h { a : 8@a; }");
        fault(1, "header h { a : 0x8@x; }");
        fault(5, "header h { a : @0x0000000000000041; }");
        fault(5, "header h { a : @000000000000000000; }");
        inControl(1, "o = q <<@= 1; }");
        inControl(1, "o = q >>@= 1; }");
        inControl(1, "o = q ==@= 1; }");
        inControl(1, "m = m ++@+ m; }");
        inControl(1, "m = m &&@& m; }");
        inControl(6, "@header1 = 1; }");
    }

    private static void cannotStand() {
        fault(1, "@");
        fault(1, "   \n@");
        fault(1, "@h");
        fault(1, "header @");
        fault(1, "header @header { a : 8; }");
        fault(1, "header h @: { a : 8; }");
        fault(1, "header h { @}");
        fault(1, "header h { a : 8; @: }");
        fault(1, "header h { a : 8 @}");
        fault(1, "header h { a @8; }");
        fault(1, "header h { a : @b; }");
        fault(1, HEAD + "use z @h;");
        fault(1, HEAD + "array s : 8 @;");
        fault(1, HEAD + "array s : 8 [ 8 @;");
        fault(1, HEAD + "state s { extract x; @}");
        fault(1, HEAD + "state s { @select2 x.a { } }");
        fault(1, HEAD + "state s { goto accept; @extract x; }");
        fault(1, HEAD + "state s { select m { @} }");
        fault(1, HEAD + "state s { select m { 1 : accept; @goto");
        fault(1, HEAD + "state s { select m { 1 & @m : accept;");
        fault(1, HEAD + "state s { select m { default : accept; @1 : accept;");
        fault(1, HEAD + "state s { goto @extract; }");
        fault(1, HEAD + "action f @{ }");
        fault(1, HEAD + "action f ( @, ) { }");
        fault(1, HEAD + "action f ( p : 8, @) { }");
        fault(1, HEAD + "action f () { @apply t; }");
        fault(1, HEAD + "action f () { @if o { } }");
        inTable(1, "@actions a;");
        inTable(1, "key m @exact;");
        inTable(1, "key m : @m;");
        inTable(1, "key m : exact; @default a ();");
        inTable(1, "key m : exact; actions @;");
        inTable(1, "key m : exact; actions a, @;");
        inTable(1, "key m : exact; actions a; @room 1");
        inTable(1, "key m : exact; actions a; default a @; room 1");
        inTable(1, "key m : exact; actions a; default b (1 @2)");
        inTable(1, "key m : exact; actions a; default b (1 @;");
        inTable(1, "key m : exact; actions a; default b (1, @)");
        inTable(1, "key m : exact; actions a; default b (@m)");
        inTable(1, "key m : exact; actions a; default a (); room 1@; }");
        inTable(1, "key m : exact; actions a; default a (); room 1 ways 1@; }");
        inTable(1, "key m : masked; actions a; default a (); room 1 @ways");
        inTable(1, "key m : exact; actions a; default a (); room 1 ways 1 stash 0; @key");
        fault(1, HEAD + "@emit x;");
        fault(1, HEAD + "control @emit x;");
        fault(1, HEAD + "control { } @");
        fault(1, HEAD + "control { } @control { } emit x;");
        fault(1, HEAD + "control { } emit @;");
        fault(1, HEAD + "control { } emit x, @;");
        fault(1, HEAD + "control { } emit x @y;");
        fault(1, HEAD + "control { } emit x@");
        fault(1, HEAD + "control { } emit x; @;");
        inControl(1, "@else { } }");
        inControl(1, "if o @drop; }");
        inControl(1, "if o { } else @if o { } }");
        inControl(1, "drop @} }");
        inControl(1, "x @= 1; }");
        inControl(1, "x . @1 = 1; }");
        inControl(1, "m @. a = 1; }");
        inControl(1, "m @+ 1; }");
        inControl(1, "load @1 r [0]; }");
        inControl(1, "load m r @; }");
        inControl(1, "load m r [0] @1; }");
        inControl(1, "store r [0 @; }");
        inControl(1, "store r [0] @; }");
        inControl(1, "m = @; }");
        inControl(1, "m = (m @; }");
        inControl(1, "m = m@) }");
        inControl(1, "m = m + @} }");
        inControl(1, "m = m[@m : 0]; }");
        inControl(1, "m = m[1 @] }");
        inControl(1, "m = m[1 : 0@; }");
        inControl(1, "m = m as @m; }");
        inControl(1, "m = o ? m @; }");
        inControl(1, "m = o ? o @? m : m : m; }");
        inControl(1, "m = (o ? m@) : m; }");
        inControl(1, "o = m == m @== o; }");
        inControl(1, "o = m < m @>= o; }");
        inControl(1, "o = valid @( x ); }");
        inControl(1, "m = q[7:0] as @; }");
        inAction(1, "m = x@.a; }");
        inAction(1, "m = p@.a; }");
        inAction(1, "m = m@.a; }");
    }

    private static void thereAlready() {
        fault(3, "header h { a : 8; } header @h { a : 8; }");
        fault(3, "header @in_port { a : 8; }");
        fault(3, "header @accept { a : 8; }");
        fault(3, "header h { a : 8; b : 8; @a : 8; }");
        fault(3, "meta @length : 8;");
        fault(3, "meta abcdefgh_1 : 8; meta abcdefgh_2 : 8; meta @abcdefgh_1 : 8;");
        fault(3, "header h { abcdefgh_1 : 8; abcdefgh_2 : 8; @abcdefgh_2 : 8; }");
        fault(3, "action f (abcdefgh_1 : 8, abcdefgh_2 : 8, @abcdefgh_1 : 8) { }");
        fault(3, HEAD + "use @x : h;");
        fault(3, HEAD + "use @h : h;");
        fault(3, HEAD + "array @m : 8 [1];");
        fault(3, HEAD + "action @r () { }");
        fault(3, HEAD + "action f (p : 8, @p : 8) { }");
        fault(3, HEAD + "action f () { } table @f { }");
        fault(3, HEAD + "state s { goto accept; } state @s { goto accept; }");
        fault(3, HEAD + "state @reject { goto accept; }");
        fault(3, HEAD + "state @x { goto accept; }");
        fault(3, HEAD + "state s { goto t; } meta @t : 8;");
        fault(3, HEAD + "state s { goto t; } meta @s : 8;");
    }

    private static void oneTooMany() {
        fault(4, Works.times(12, "header h# { a : 8; } ") + "header @k { a : 8; }");
        fault(4, Works.times(12, "header h# { a : 8; } ") + "header @h1 { a : 8; }");
        fault(4, "header h { " + Works.times(16, "f# : 8; ") + "@g : 8; }");
        fault(4, "header h { " + Works.times(16, "f# : 8; ") + "@f1 : 8; }");
        fault(4, HEAD + Works.times(10, "use x# : h; ") + "use @z : nothing;");
        fault(4, HEAD + Works.times(10, "meta m# : 8; ") + "meta @n : 8;");
        fault(4, HEAD + Works.times(7, "array r# : 8 [1]; ") + "array @s : 8 [1];");
        fault(4, Works.times(16, "state s# { goto accept; } ") + "state @t { goto accept; }");
        fault(4, Works.times(16, "state s# { goto accept; } ") + "state @s0 { goto accept; }");
        fault(4, Works.times(15, "state s# { goto accept; } ") + "state t { goto @u; }");
        fault(4, Works.times(15, "state s# { goto v; } ") + "state @t { goto u; }");
        fault(4, HEAD + "state s { " + Works.times(6, "extract x; ") + "@extract x; goto accept; }");
        fault(4, HEAD + "state s { select m { " + Works.times(8, "# : accept; ") + "@9 : accept;");
        fault(4, Works.times(16, "action a# () { } ") + "action @b () { }");
        fault(4, "action f (p : 1, q : 1, r : 1, s : 1, @t : 1) { }");
        fault(4, "action f (p : 1, q : 1, r : 1, s : 1, @p : 1) { }");
        fault(4, "action f () { " + Works.times(12, "drop; ") + "@drop; }");
        fault(4, "action f () { " + Works.times(12, "drop; ") + "@nothing = 1; }");
        fault(4, HEAD + "action f () { } " + Works.times(8, "table t# { key m : masked; actions f; default f (); room 1; } ")
                + "table @u { }");
        inTable(4, Works.times(4, "key m : exact; ") + "@key m : exact;");
        fault(4, Works.times(9, "action a# () { } ") + "table t { key 1 : exact; actions a0, a1, a2, a3, a4, a5, a6, a7, @a8;");
        fault(4, Works.times(9, "action a# () { } ") + "table t { key 1 : exact; actions a0, a1, a2, a3, a4, a5, a6, a7, @zz;");
        fault(4, Works.times(9, "action a# () { } ") + "table t { key 1 : exact; actions a0, a1, a2, a3, a4, a5, a6, a7, @a1;");
        inControl(4, Works.times(48, "drop; ") + "@drop; }");
        inControl(4, Works.times(48, "drop; ") + "@if o { } }");
        inControl(4, "if o { " + Works.times(47, "drop; ") + "} else { @apply t; } }");
        inControl(4, Works.times(48, "drop; ") + "@nothing = 1; }");
        inControl(1, Works.times(48, "drop; ") + "@header }");
        inControl(4, Works.times(7, "if o { ") + "if o @{ } }");
        inControl(1, Works.times(7, "if o { ") + "if o @drop; }");
        inControl(4, Works.times(6, "if o { ") + "if o { } else { if o @{ } } }");
        inControl(4, "m = " + Works.times(24, "(") + "@m" + Works.times(24, ")") + "; }");
        inControl(4, "m = " + Works.times(24, "(") + "@(m" + Works.times(24, ")") + "; }");
        inControl(4, "m = " + Works.times(23, "~") + "@-m; }");
        inControl(4, "m = " + Works.times(23, "(") + "@-m" + Works.times(23, ")") + "; }");
        inControl(4, "m = " + Works.times(24, "o ? m : ") + "@m; }");
        inControl(4, "m = " + Works.times(24, "(") + "@5" + Works.times(24, ")") + "; }");
        inControl(4, "o = " + Works.times(24, "(") + "@valid x" + Works.times(24, ")") + "; }");
        inControl(4, "o = " + Works.times(24, "(") + "@!o" + Works.times(24, ")") + "; }");
        inControl(4, "o = " + Works.times(24, "(") + "@-o" + Works.times(24, ")") + "; }");
        inControl(4, "o = " + Works.times(24, "(") + "@~o" + Works.times(24, ")") + "; }");
        inControl(1, "o = " + Works.times(24, "(") + "@" + Works.times(24, ")") + "; }");
        inControl(4, "m = " + Works.times(12, "~(") + "@m" + Works.times(12, ")") + "; }");
        inControl(4, "q = 1" + Works.times(400, "+1") + "@; }");
        inControl(4, "q = 1" + Works.times(400, "+1") + "@+1; }");
        inControl(4, "q = 1" + Works.times(400, "+1") + "@");
        inControl(4, "q = q" + Works.times(399, "+1") + " as 64; o = o@; }");
        inControl(4, "q = q" + Works.times(399, "+1") + " as 64 as 64@; }");
        inControl(4, "o = o; q = 1" + Works.times(399, "+1") + "+1@; }");
        inControl(4, "q = 1" + Works.times(399, "+1") + "; o = o; o = o@; }");
    }

    private static void badNumbers() {
        fault(5, "header h { a : @0; }");
        fault(5, "header h { a : @65; }");
        fault(5, "meta n : @0xffffffffffffffff;");
        fault(5, "array r : @65 [1];");
        fault(5, "array r : 8 [@0];");
        fault(5, "array r : 8 [@65];");
        fault(5, "action f (p : @0) { }");
        inControl(5, "m = m as @0; }");
        inControl(5, "m = m as @65; }");
        String exact = "key m : exact; actions a; default a (); room ";
        inTable(5, exact + "@0 ways 1 stash 0; }");
        inTable(5, exact + "@3 ways 1 stash 0; }");
        inTable(5, exact + "@32 ways 1 stash 0; }");
        inTable(5, exact + "@0x8000000000000000 ways 1 stash 0; }");
        inTable(5, exact + "16 ways @0 stash 0; }");
        inTable(5, exact + "16 ways @5 stash 0; }");
        inTable(5, exact + "16 ways 4 stash @9; }");
        inTable(5, "key m : masked; actions a; default a (); room @0; }");
        inTable(5, "key m : masked; key m : exact; actions a; default a (); room @33; }");
    }

    private static void notThere() {
        fault(6, "use x : @h;");
        fault(6, HEAD + "use z : @x;");
        fault(6, HEAD + "state s { extract @h;");
        fault(6, HEAD + "state s { goto @x;");
        fault(6, Works.times(15, "state s# { goto accept; } ") + "meta m : 8; state s { goto @m; }");
        fault(6, Works.times(16, "state s# { goto accept; } ").replace("s3 { goto accept", "s3 { goto @length"));
        fault(6, HEAD + "state s { select @n { default : accept; } }");
        fault(6, HEAD + "state s { select m { 1 : @r; } }");
        inTable(6, "key m : exact; actions @c;");
        inTable(6, "key m : exact; actions @m;");
        inTable(6, "key m : exact; actions a; default @m ();");
        inTable(6, "key @p : exact;");
        inControl(6, "@in_port = 1; }");
        inControl(6, "@length = 1; }");
        inControl(6, "load @length r [0]; }");
        inControl(6, "@r = 1; }");
        inControl(6, "@accept = 1; }");
        inControl(6, "x . @d = 1; }");
        inControl(6, "x . a = x . @x; }");
        inControl(6, "m = @r; }");
        inControl(6, "m = @h; }");
        inControl(6, "o = valid @m; }");
        inControl(6, "load m @m [0]; }");
        inControl(6, "store @x [0] 1; }");
        inControl(6, "add @h; }");
        inControl(6, "take @m; }");
        inControl(6, "apply @t; }");
        inControl(6, "apply @x; }");
        inControl(6, "} emit @h;");
        inControl(6, "} emit x, @z;");
        inAction(6, "} control { m = @p; }");
        inAction(6, "} action b (z : 8) { m = @p; }");
        inAction(6, "} table t { key @p : exact;");
        inAction(6, "@p = 1; }");
        inAction(6, "m = @p2; }");
    }

    private static void widths() {
        inControl(7, "m = @256; }");
        inControl(7, "m = @(256); }");
        inControl(7, "m = @((q)); }");
        inControl(7, "o = @2; }");
        inControl(7, "x.c = @128; }");
        inControl(7, "m = @1 + 2; }");
        inControl(7, "m = @o ? 1 : 2; }");
        inControl(7, "m = @-5; }");
        inControl(7, "m = @~5; }");
        inControl(7, "m = @1 << 1; }");
        inControl(7, "m = @5[7:1]; }");
        inControl(7, "m = @m as 9; }");
        inControl(7, "m = @valid x; }");
        inControl(7, "m = @m == m; }");
        inControl(7, "m = @x.b ++ x.c ++ o; }");
        inControl(7, "if @m { } }");
        inControl(7, "if @2 { } }");
        inControl(7, "load o @r [0]; }");
        inControl(7, "load x.b @r 0; }");
        inControl(7, "store r [0] @256; }");
        inControl(7, "store r [q] @q; }");
        inControl(7, "m = m[@8 : 0]; }");
        inControl(7, "m = m[@0 : 1]; }");
        inControl(7, "m = 5[@64 : 0]; }");
        inControl(7, "m = m[@0xffffffffffffffff : 0]; }");
        inControl(7, "m = m[@1 : 0xffffffffffffffff]; }");
        inControl(7, "m = (m)[7:4][@4:0]; }");
        fault(7, HEAD + "state s { select m { @256 : accept; } }");
        fault(7, HEAD + "state s { select m { 255 & @256 : accept; } }");
        fault(7, HEAD + "state s { select o { @2 : accept; } }");
        inTable(7, "key m : exact; actions a; default b (@16, 255);");
        inTable(7, "key m : exact; actions a; default b (15, @256);");
        inAction(7, "m = @out_port; }");
    }

    private static void widthsOfOperators() {
        for (String sign : new String[] {"+", "-", "&", "|", "^", "==", "!=", "<", "<=", ">", ">="}) {
            inControl(7, "q = m " + sign + " @q; }");
            inControl(7, "q = m " + sign + " @(q); }");
            inControl(7, "q = m " + sign + " @256; }");
            inControl(7, "q = @256 " + sign + " m; }");
            inControl(7, "q = @(256) " + sign + " m; }");
        }
        inControl(7, "q = 1 + 2 + @m; }");
        inControl(7, "m = m + @1 ++ m; }");
        inControl(7, "o = @m && o; }");
        inControl(7, "o = o || @m; }");
        inControl(7, "o = @m || m; }");
        inControl(7, "o = @2 || m; }");
        inControl(7, "o = o && @2; }");
        inControl(7, "o = !@m; }");
        inControl(7, "o = !@2; }");
        inControl(7, "o = !@(2); }");
        inControl(7, "m = @m ? m : m; }");
        inControl(7, "m = @2 ? m : q; }");
        inControl(7, "m = o ? m : @q; }");
        inControl(7, "m = o ? @256 : m; }");
        inControl(7, "m = o ? m : @256; }");
        inControl(7, "m = @1 ++ m; }");
        inControl(7, "m = m ++ @1; }");
        inControl(7, "m = m ++ @(1); }");
        inControl(7, "m = @1 ++ 1; }");
        inControl(7, "q = q ++ @o; }");
        inControl(7, "q = ~5 ++ @o; }");
    }

    private static void rules() {
        fault(8, "header @h { a : 7; }");
        fault(8, "header @h { " + Works.times(8, "f# : 64; ") + "g : 8; }");
        inTable(8, "key m : exact; actions a, b, @a;");
        inTable(8, "key m : prefix; key m : exact; key m : @prefix;");
        inTable(8, "key m : prefix; key m : @masked;");
        inTable(8, "key m : masked; key m : exact; key m : @prefix;");
        inTable(8, "key m : exact; actions a; default @b ();");
        inTable(8, "key m : exact; actions a; default @b (1);");
        inTable(8, "key m : exact; actions a; default @b (1, 2, 0xffffffffffffffff);");
        inTable(8, "key m : exact; actions b; default @a (1);");
        fault(8, HEAD + ACTIONS + "table t { key m : exact; actions a; default a (); room 1 ways 1 stash 0; }"
                + " control { if o { apply t; } else { apply @t; } }");
        inControl(8, "} emit x, y, @x;");
    }

    private static void states() {
        String rest = " control { } emit x;";
        fault(6, HEAD + "state s { goto @t; } state u { goto v; }" + rest);
        fault(6, HEAD + "state s { select m { 1 : accept; 2 : @t; default : t; } }" + rest);
        fault(6, HEAD + "state s { goto s; } state u { goto @v; }" + rest);
        fault(8, HEAD + "state @s { goto s; }" + rest);
        fault(8, HEAD + "state s { goto t; } state @t { goto u; } state u { goto t; }" + rest);
        fault(8, HEAD + "state s { goto u; } state t { extract x; goto s; } state @u { select m { 1 : accept;"
                + " 2 : v; default : t; } } state v { goto u; }" + rest);
        fault(8, HEAD + "state s { select m { 0 : b; default : a; } } state @a { goto b; } state b { goto a; }" + rest);
        fault(8, HEAD + "state @s { select m { 0 : s; default : accept; } }" + rest);
        fault(8, HEAD + "state @s { select m { 0 : accept; 1 : reject; 2 : s; default : accept; } }" + rest);
        fault(1, HEAD + "state s { goto t; }" + rest + " @x");
        PacketWorks x = new PacketWorks();
        Works.put(x, HEAD + "state s { extract x; goto t; } state t { goto s; } state u { extract y; goto u; }" + rest);
        Works.due("states that come to themselves with an extract", x.read(), 0);
    }

    private static void whichIsAhead() {
        inControl(2, "m = 256 @$");
        inControl(7, "m = @256 }");
        inControl(7, "m = @256");
        inControl(7, "m = @o == o == 1; }");
        inControl(7, "o = @m && o == o == 1; }");
        inControl(2, "m = m[8 : 0 @$");
        inControl(7, "m = m[@8 : 0 ;");
        inControl(2, "load o r @$");
        inControl(7, "load o @r ;");
        inControl(5, "m = m as @0 $");
        inControl(6, "m = @n $");
        inControl(7, "m = m + @q == 1 }");
        fault(3, "meta m : 8; meta @m $");
        fault(5, "header h { a : @99 $");
        fault(8, "header @h { a : 7; } $");
        fault(2, "header h { a : 7; @$");
        fault(1, "header h { a : 7; @;");
        inTable(2, "key m : prefix; key m : prefix @$");
        inTable(8, "key m : prefix; key m : @prefix ,");
        inTable(2, "key m : exact; actions a, a @$");
        inTable(8, "key m : exact; actions a, @a key");
        inTable(8, "key m : exact; actions a; default @b (1) $");
        inTable(2, "key m : exact; actions a; default b (1 @$");
        inTable(7, "key m : exact; actions a; default b (@99 ]");
        inControl(2, "} emit x, x @$");
        inControl(8, "} emit x, @x x");
        inControl(7, "m = @1" + Works.times(400, "+1") + "; }");
        inControl(7, "q = 1" + Works.times(399, "+1") + "; o = o; m = @o; }");
    }
}
