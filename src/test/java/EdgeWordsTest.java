/** Boundary cases of the term WORDS. */
public final class EdgeWordsTest {
    private static final String HEAD = "header h { a : 8; } use x : h; meta m : 8; meta o : 1; meta q : 64; ";
    private static final String[] KEYWORDS = ("header use meta array state extract goto select default action table key exact"
            + " prefix masked actions room ways stash control apply if else emit add take drop load store valid as").split(" ");

    public static void main(String[] args) {
        names();
        namesThatDiffer();
        keywordsAreNoNames();
        decimals();
        hexes();
        noughtXWithoutADigit();
        asLongAsCanBe();
        signs();
        spaces();
        otherBytes();
        theEndOfTheText();
        Works.done();
    }

    private static void control(String block) {
        Works.fine(HEAD + "control {" + block + "} emit x;");
    }

    private static void inControl(int kind, String block) {
        Works.fault(kind, HEAD + "control { " + block);
    }

    private static void names() {
        Works.sentence("WORDS: a letter a .. z, then letters a .. z, digits, _");
        for (String name : new String[] {"a", "z", "a0", "z9", "a_", "z_0", "abcdefgh", "abcdefghi", "x_____________z9"}) {
            Works.fine(HEAD.replace("meta o", "meta " + name) + "control { } emit x;");
        }
        Works.fault(2, "meta @_a : 8;");
        Works.fault(2, "meta @A : 8;");
        Works.fault(2, "meta a@A : 8;");
        Works.fault(2, "meta az@Z : 8;");
        Works.fault(2, "meta a@` : 8;");
        Works.fault(1, "meta @9a : 8;");
        Works.fault(1, "meta a@{ : 8;");
        Works.fault(2, "meta a@/ : 8;");
        Works.sentence("WORDS: names have at most 16 in all");
        Works.fine(HEAD + "meta abcdefghijklmnop : 8; meta abcdefghijklmnoq : 8; meta bbcdefghijklmnop : 8;"
                + " meta abcdefghijklmno : 8; control { abcdefghijklmnop = abcdefghijklmnoq; } emit x;");
        Works.fault(3, "meta abcdefghijklmnop : 8; meta @abcdefghijklmnop : 8;");
        Works.fault(2, "meta @abcdefghijklmnopq : 8;");
        Works.fault(2, "meta @a0123456789_____0 : 8;");
        Works.fault(2, "meta @" + "a".repeat(300) + " : 8;");
        Works.fault(2, "@headerheaderheader");
        Works.fault(2, "meta m : 8; control { @mmmmmmmmmmmmmmmmm");
    }

    /** Names as metas of different widths, as fields and as parameters: each is known from the others. */
    private static void known(String[] names) {
        StringBuilder metas = new StringBuilder();
        StringBuilder fields = new StringBuilder();
        StringBuilder puts = new StringBuilder();
        for (int i = 0; i < names.length; i++) {
            metas.append("meta ").append(names[i]).append(':').append(i + 1).append(';');
            fields.append(names[i]).append(':').append(i + 1).append(';');
            puts.append(names[i]).append('=').append((1 << i + 1) - 1).append(";z.");
            puts.append(names[i]).append('=').append((1 << i + 1) - 1).append(';');
        }
        int bits = names.length * (names.length + 1) / 2;
        String header = "header y{" + fields + "y:" + (64 - bits % 8) + ";}use z:y;";
        Works.fine(header + metas + "control{" + puts + "}emit z;");
        for (int i = 0; i < names.length; i++) {
            Works.fault(3, metas + "meta @" + names[i] + ":1;");
            Works.fault(3, "header y{" + fields + "@" + names[i] + ":1;}");
        }
        for (int i = 0; i + 3 < names.length; i++) {
            Works.fine(header + "array w:1[1];array v:2[1];action a(" + names[i] + ":1," + names[i + 1] + ":2,"
                    + names[i + 2] + ":1," + names[i + 3] + ":2){store w[0]" + names[i] + ";store v[0]" + names[i + 1]
                    + ";store w[0]" + names[i + 2] + ";store v[0]" + names[i + 3] + ";}control{}emit z;");
        }
    }

    private static void namesThatDiffer() {
        Works.sentence("WORDS: names that differ in one place, or in their lengths, are different names");
        for (int at = 0; at < 16; at++) {
            String[] others = at == 0 ? new String[] {"a", "b", "c", "q", "k"} : new String[] {"a", "b", "c", "1", "_", "q"};
            String[] names = new String[others.length];
            for (int i = 0; i < others.length; i++) {
                names[i] = "abcdefghijklmnop".substring(0, at) + others[i] + "bcdefghijklmnopa".substring(at, 15);
            }
            known(names);
            for (int i = 0; i < others.length; i++) {
                names[i] = "abcdefghijklmnop".substring(0, at) + others[i];
            }
            known(names);
        }
        String[] lengths = new String[12];
        for (int from = 1; from <= 5; from++) {
            for (int i = 0; i < lengths.length; i++) {
                lengths[i] = "c".repeat(from + i);
            }
            known(lengths);
        }
        known(new String[] {"a1234567b", "c1234567b", "b1234567a", "a1234567a", "c1234567a", "b1234567b"});
        known(new String[] {"a12345678", "a12345679", "a1234567", "a123456789", "a12345678_", "a12345679_"});
        long seed = 1;
        for (int round = 0; round < 60; round++) {
            String[] names = new String[6];
            for (int i = 0; i < names.length; i++) {
                StringBuilder name = new StringBuilder("n");
                for (int k = 1; k < 16; k++) {
                    seed = seed * 6364136223846793005L + 1442695040888963407L;
                    name.append("abc_1".charAt((int) (seed >>> 40) % 5));
                }
                names[i] = name.toString();
            }
            known(names);
        }
    }

    private static void keywordsAreNoNames() {
        Works.sentence("WORDS: the words header .. as are no names");
        Works.due("how many there are", KEYWORDS.length, 31);
        for (String keyword : KEYWORDS) {
            Works.fault(1, "meta @" + keyword + " : 8;");
            String other = keyword.substring(0, keyword.length() - 1);
            for (String name : new String[] {keyword + "x", keyword + "_", keyword + "0", "x" + keyword}) {
                Works.fine(HEAD + "meta " + name + " : 8; control { m = " + name + "; } emit x;");
            }
            if (!other.equals("action") && !other.equals("a")) {
                Works.fine(HEAD + "meta " + other + "z : 8; control { m = " + other + "z; } emit x;");
            }
        }
    }

    private static void decimals() {
        Works.sentence("WORDS: numbers: digits, at most 18, noughts ahead count as digits");
        Works.fine("header h { a : 000000000000000008; } use x : h; control { } emit x;");
        Works.fault(2, "header h { a : @0000000000000000008; }");
        Works.fault(2, "header h { a : @1000000000000000000; }");
        Works.fault(2, "header h { a : @" + "0".repeat(100) + "; }");
        value("999999999999999999", 999999999999999999L);
        value("000000000000000000", 0);
        value("100000000000000000", 100000000000000000L);
        inControl(2, "q = @1000000000000000000; }");
    }

    private static void hexes() {
        Works.sentence("WORDS: or 0x and 1 to 16 digits 0 .. 9 a .. f (64 bits)");
        value("0x0", 0);
        value("0xf", 15);
        value("0x9a", 0x9a);
        value("0xffffffffffffffff", -1);
        value("0x8000000000000000", Long.MIN_VALUE);
        value("0x0123456789abcdef", 0x0123456789abcdefL);
        value("0x0000000000000001", 1);
        inControl(2, "q = @0x10000000000000000; }");
        inControl(2, "q = @0x00000000000000000; }");
        inControl(2, "q = @0x" + "f".repeat(60) + "; }");
        inControl(1, "q = 0xff@g; }");
        inControl(2, "q = 0xff@F; }");
        inControl(1, "q = 0x1@x1; }");
    }

    private static void noughtXWithoutADigit() {
        Works.sentence("WORDS: 0x without a digit is none");
        inControl(2, "q = @0x; }");
        inControl(2, "q = @0xg; }");
        inControl(2, "q = @0x 1; }");
        inControl(2, "q = @0xA; }");
        inControl(2, "q = @0x_1; }");
        inControl(2, "q = @0x");
        inControl(1, "q = 0@y; }");
        inControl(1, "q = 0@");
        inControl(1, "q = 00@x1; }");
        inControl(1, "q = 1@x1; }");
        inControl(2, "q = 0@X1; }");
    }

    private static void value(String number, long want) {
        PacketWorks x = Works.laid(HEAD + "array r : 64 [1]; control { store r [0] " + number + "; } emit x;");
        x.packet(0);
        x.run(2);
        Works.due(number, x.word(0, 0), want);
    }

    private static void asLongAsCanBe() {
        Works.sentence("WORDS: A word is as long as can be (<<= is << and =; 12ab is 12 and ab)");
        inControl(1, "q = q <<@= 1; }");
        inControl(1, "q = q >>@= 1; }");
        inControl(1, "o = q ==@= 1; }");
        inControl(1, "o = q !=@= 1; }");
        inControl(1, "o = q <=@= 1; }");
        inControl(1, "o = q >=@= 1; }");
        inControl(1, "q = q <<@< 1; }");
        inControl(1, "q = q >>@> 1; }");
        inControl(1, "o = o &&@& o; }");
        inControl(1, "o = o ||@| o; }");
        inControl(1, "m = m ++@+ m; }");
        inControl(1, "m = m ^@^ m; }");
        inControl(1, "o @== o; }");
        for (String sign : new String[] {"+", "++", "-", "&", "&&", "|", "||", "^", "~", "("}) {
            inControl(1, "o = o " + (sign.equals("~") || sign.equals("(") ? "+ " : "") + sign + "@= o; }");
        }
        inControl(1, "o = o ?@= o : o; }");
        inControl(1, "o = o ? o :@= o; }");
        inControl(1, "o = q[@= ; }");
        inControl(1, "o = x.@= ; }");
        inControl(1, "o = o;@= ; }");
        inControl(1, "@= o; }");
        inControl(1, "o = (o)@= ; }");
        inControl(1, "q = q[63:0]@= ; }");
        Works.fault(1, HEAD + "control {@=");
        Works.fault(1, HEAD + "control { }@=");
        Works.fault(1, HEAD + "control { } emit x,@=");
        inControl(1, "m = 12@ab; }");
        control("m=5as 8;");
        inControl(1, "m = 0x5a@s; }");
        control("q=q--q;");
        control("q=q- -q;");
        control("q=~~-q;");
        control("o=!!o;");
        control("o=o&&!o;");
        control("m=m&~m;");
        control("o=o==!o;");
        control("o=m<-m;");
        control("if(o){drop;}else{drop;}");
        Works.fine(HEAD + "action a(){}table t{key m:exact;actions a;default a();room 1ways 1stash 0;}control{}emit x;");
        inControl(1, "m = m @= = m; }");
        inControl(1, "o = m < @= m; }");
        inControl(1, "o = o & @& o; }");
        inControl(1, "q = q < @< 1; }");
        inControl(1, "m = m + @+ m; }");
    }

    private static void signs() {
        Works.sentence("WORDS: signs { } ( ) [ ] : ; , . ? = == != < <= > >= + ++ - & && | || ^ ~ ! << >>");
        control("m=m+m-m&m|m^m;");
        control("o=m==m;o=m!=m;o=m<m;o=m<=m;o=m>m;o=m>=m;");
        control("o=o&&o||o;");
        control("m=m[3:0]++m[7:4];");
        control("m=o?~m:m<<1>>1;");
        control("o=!(x.a==1);");
    }

    private static void spaces() {
        Works.sentence("WORDS: spaces and line ends (32, 10) stand between words where they must");
        Works.fine("\n \nheader\nh{a:8;}use x:h;control{}emit\nx;\n\n ");
        Works.fine(" header h { a : 8 ; } use x : h ; control { if x . a == 1 { } else { } } emit x ; ");
        Works.fault(1, "@headerh{a:8;}");
        Works.fault(1, "header h{a:8;}@usex:h;");
        Works.fault(1, "header h{a:8;}use x:h;control{}@emitx;");
        Works.fault(1, "header h { a : @a 8; }");
        Works.fault(1, "header h { a : 8 @8; }");
        for (char c : new char[] {0, 9, 11, 12, 13, 31, 127, 160, 255}) {
            Works.fault(2, "header h { a : 8; }@" + c);
        }
    }

    private static void otherBytes() {
        Works.sentence("WORDS: any other byte is a word that is none");
        for (int c = 0; c < 256; c++) {
            boolean letter = c >= 'a' && c <= 'z';
            boolean digit = c >= '0' && c <= '9';
            boolean space = c == ' ' || c == '\n';
            boolean sign = "{}()[]:;,.?=<>+-&|^~!".indexOf(c) >= 0;
            PacketWorks x = new PacketWorks();
            Works.put(x, Works.bytes('m', 'e', 't', 'a', ' ', c));
            Works.dueThrow("read()", IllegalArgumentException.class, x::read);
            Works.due("fault(0) of byte " + c, x.fault(0), letter || digit || space || sign ? 1 : 2);
            Works.due("fault(1) of byte " + c, x.fault(1), letter || space ? 6 : 5);
        }
    }

    /** The fault of a text that comes behind another one, which fills the tape with some bytes. */
    private static void behind(String filling, int kind, String marked) {
        PacketWorks x = new PacketWorks();
        Works.put(x, filling.repeat(400 / filling.length()));
        Works.dueThrow("read() of " + filling, IllegalArgumentException.class, x::read);
        Works.put(x, marked.replace("@", ""));
        Works.dueThrow("read() of " + marked, IllegalArgumentException.class, x::read);
        Works.due("fault(0) of " + marked + " behind " + filling, x.fault(0), kind);
        Works.due("fault(1) of " + marked + " behind " + filling, x.fault(1), marked.indexOf('@'));
    }

    private static void theEndOfTheText() {
        Works.sentence("WORDS: a word ends with the text, whatever the tape had before");
        for (String filling : new String[] {"x", "0", "=", "a", "<", ">", "&", "|", "+", " ", "f", ";"}) {
            behind(filling, 5, "meta m : @0");
            behind(filling, 1, "meta m : 8@");
            behind(filling, 1, "meta m : 0x8@");
            behind(filling, 1, "meta m : 8; header@");
            behind(filling, 1, "meta abcdefghijklmnop@");
            behind(filling, 1, "meta m : 8; array r : 8 [64@");
            behind(filling, 2, "meta m : @0x");
            for (String sign : new String[] {"=", "==", "!=", "<", "<=", ">", ">=", "+", "++", "-", "&", "&&", "|", "||",
                "^", "<<", ">>"}) {
                String put = sign.equals("=") ? "" : "o = o ";
                behind(filling, 1, "meta o : 1; control { " + put + (put.isEmpty() ? "o " : "") + sign + "@");
            }
            behind(filling, 1, "meta o : 1; control { o = !@");
            behind(filling, 1, "meta o : 1; control { o = ~@");
            behind(filling, 1, "meta o : 1; control { o = -@");
        }
    }
}
