/** Boundary cases of the term WORDS. */
public final class EdgeWordsTest {
    private static final String HEAD = "header h { a : 8; } use x : h; meta m : 8; meta o : 1; meta q : 64; ";
    private static final String[] KEYWORDS = ("header use meta array state extract goto select default action table key exact"
            + " prefix masked actions room ways stash control apply if else emit add take drop load store valid as").split(" ");

    public static void main(String[] args) {
        names();
        keywordsAreNoNames();
        decimals();
        hexes();
        noughtXWithoutADigit();
        asLongAsCanBe();
        signs();
        spaces();
        otherBytes();
        Works.done();
    }

    private static void control(String block) {
        Works.fine(HEAD + "control {" + block + "} emit x;");
    }

    private static void inControl(int kind, String block) {
        Works.fault(kind, HEAD + "control { " + block);
    }

    private static void names() {
        Works.sentence("WORDS: a letter a .. z, then letters a .. z, digits, _");
        for (String name : new String[] {"a", "z", "a0", "z9", "a_", "z_0", "abcdefgh", "abcdefghi", "x_____________z9"}) {
            Works.fine(HEAD.replace("meta o", "meta " + name) + "control { } emit x;");
        }
        Works.fault(2, "meta @_a : 8;");
        Works.fault(2, "meta @A : 8;");
        Works.fault(2, "meta a@A : 8;");
        Works.fault(2, "meta az@Z : 8;");
        Works.fault(2, "meta a@` : 8;");
        Works.fault(1, "meta @9a : 8;");
        Works.fault(1, "meta a@{ : 8;");
        Works.fault(2, "meta a@/ : 8;");
        Works.sentence("WORDS: names have at most 16 in all");
        Works.fine(HEAD + "meta abcdefghijklmnop : 8; meta abcdefghijklmnoq : 8; meta bbcdefghijklmnop : 8;"
                + " meta abcdefghijklmno : 8; control { abcdefghijklmnop = abcdefghijklmnoq; } emit x;");
        Works.fault(3, "meta abcdefghijklmnop : 8; meta @abcdefghijklmnop : 8;");
        Works.fault(2, "meta @abcdefghijklmnopq : 8;");
        Works.fault(2, "meta @a0123456789_____0 : 8;");
        Works.fault(2, "meta @" + "a".repeat(300) + " : 8;");
        Works.fault(2, "@headerheaderheader");
        Works.fault(2, "meta m : 8; control { @mmmmmmmmmmmmmmmmm");
    }

    private static void keywordsAreNoNames() {
        Works.sentence("WORDS: the words header .. as are no names");
        Works.due("how many there are", KEYWORDS.length, 31);
        for (String keyword : KEYWORDS) {
            Works.fault(1, "meta @" + keyword + " : 8;");
            String other = keyword.substring(0, keyword.length() - 1);
            for (String name : new String[] {keyword + "x", keyword + "_", keyword + "0", "x" + keyword}) {
                Works.fine(HEAD + "meta " + name + " : 8; control { m = " + name + "; } emit x;");
            }
            if (!other.equals("action") && !other.equals("a")) {
                Works.fine(HEAD + "meta " + other + "z : 8; control { m = " + other + "z; } emit x;");
            }
        }
    }

    private static void decimals() {
        Works.sentence("WORDS: numbers: digits, at most 18, noughts ahead count as digits");
        Works.fine("header h { a : 000000000000000008; } use x : h; control { } emit x;");
        Works.fault(2, "header h { a : @0000000000000000008; }");
        Works.fault(2, "header h { a : @1000000000000000000; }");
        Works.fault(2, "header h { a : @" + "0".repeat(100) + "; }");
        value("999999999999999999", 999999999999999999L);
        value("000000000000000000", 0);
        value("100000000000000000", 100000000000000000L);
        inControl(2, "q = @1000000000000000000; }");
    }

    private static void hexes() {
        Works.sentence("WORDS: or 0x and 1 to 16 digits 0 .. 9 a .. f (64 bits)");
        value("0x0", 0);
        value("0xf", 15);
        value("0x9a", 0x9a);
        value("0xffffffffffffffff", -1);
        value("0x8000000000000000", Long.MIN_VALUE);
        value("0x0123456789abcdef", 0x0123456789abcdefL);
        value("0x0000000000000001", 1);
        inControl(2, "q = @0x10000000000000000; }");
        inControl(2, "q = @0x00000000000000000; }");
        inControl(2, "q = @0x" + "f".repeat(60) + "; }");
        inControl(1, "q = 0xff@g; }");
        inControl(2, "q = 0xff@F; }");
        inControl(1, "q = 0x1@x1; }");
    }

    private static void noughtXWithoutADigit() {
        Works.sentence("WORDS: 0x without a digit is none");
        inControl(2, "q = @0x; }");
        inControl(2, "q = @0xg; }");
        inControl(2, "q = @0x 1; }");
        inControl(2, "q = @0xA; }");
        inControl(2, "q = @0x_1; }");
        inControl(2, "q = @0x");
        inControl(1, "q = 0@y; }");
        inControl(1, "q = 0@");
        inControl(1, "q = 00@x1; }");
        inControl(1, "q = 1@x1; }");
        inControl(2, "q = 0@X1; }");
    }

    private static void value(String number, long want) {
        PacketWorks x = Works.laid(HEAD + "array r : 64 [1]; control { store r [0] " + number + "; } emit x;");
        x.packet(0);
        x.run(2);
        Works.due(number, x.word(0, 0), want);
    }

    private static void asLongAsCanBe() {
        Works.sentence("WORDS: A word is as long as can be (<<= is << and =; 12ab is 12 and ab)");
        inControl(1, "q = q <<@= 1; }");
        inControl(1, "q = q >>@= 1; }");
        inControl(1, "o = q ==@= 1; }");
        inControl(1, "o = q !=@= 1; }");
        inControl(1, "o = q <=@= 1; }");
        inControl(1, "o = q >=@= 1; }");
        inControl(1, "q = q <<@< 1; }");
        inControl(1, "q = q >>@> 1; }");
        inControl(1, "o = o &&@& o; }");
        inControl(1, "o = o ||@| o; }");
        inControl(1, "m = m ++@+ m; }");
        inControl(1, "m = m ^@^ m; }");
        inControl(1, "o @== o; }");
        inControl(1, "m = 12@ab; }");
        control("m=5as 8;");
        inControl(1, "m = 0x5a@s; }");
        control("q=q--q;");
        control("q=q- -q;");
        control("q=~~-q;");
        control("o=!!o;");
        control("o=o&&!o;");
        control("m=m&~m;");
        control("o=o==!o;");
        control("o=m<-m;");
        control("if(o){drop;}else{drop;}");
        Works.fine(HEAD + "action a(){}table t{key m:exact;actions a;default a();room 1ways 1stash 0;}control{}emit x;");
        inControl(1, "m = m @= = m; }");
        inControl(1, "o = m < @= m; }");
        inControl(1, "o = o & @& o; }");
        inControl(1, "q = q < @< 1; }");
        inControl(1, "m = m + @+ m; }");
    }

    private static void signs() {
        Works.sentence("WORDS: signs { } ( ) [ ] : ; , . ? = == != < <= > >= + ++ - & && | || ^ ~ ! << >>");
        control("m=m+m-m&m|m^m;");
        control("o=m==m;o=m!=m;o=m<m;o=m<=m;o=m>m;o=m>=m;");
        control("o=o&&o||o;");
        control("m=m[3:0]++m[7:4];");
        control("m=o?~m:m<<1>>1;");
        control("o=!(x.a==1);");
    }

    private static void spaces() {
        Works.sentence("WORDS: spaces and line ends (32, 10) stand between words where they must");
        Works.fine("\n \nheader\nh{a:8;}use x:h;control{}emit\nx;\n\n ");
        Works.fine(" header h { a : 8 ; } use x : h ; control { if x . a == 1 { } else { } } emit x ; ");
        Works.fault(1, "@headerh{a:8;}");
        Works.fault(1, "header h{a:8;}@usex:h;");
        Works.fault(1, "header h{a:8;}use x:h;control{}@emitx;");
        Works.fault(1, "header h { a : @a 8; }");
        Works.fault(1, "header h { a : 8 @8; }");
        for (char c : new char[] {0, 9, 11, 12, 13, 31, 127, 160, 255}) {
            Works.fault(2, "header h { a : 8; }@" + c);
        }
    }

    private static void otherBytes() {
        Works.sentence("WORDS: any other byte is a word that is none");
        for (int c = 0; c < 256; c++) {
            boolean letter = c >= 'a' && c <= 'z';
            boolean digit = c >= '0' && c <= '9';
            boolean space = c == ' ' || c == '\n';
            boolean sign = "{}()[]:;,.?=<>+-&|^~!".indexOf(c) >= 0;
            PacketWorks x = new PacketWorks();
            Works.put(x, Works.bytes('m', 'e', 't', 'a', ' ', c));
            Works.dueThrow("read()", IllegalArgumentException.class, x::read);
            Works.due("fault(0) of byte " + c, x.fault(0), letter || digit || space || sign ? 1 : 2);
            Works.due("fault(1) of byte " + c, x.fault(1), letter || space ? 6 : 5);
        }
    }
}
