/** Promise 4: behind read() all is as with a new object, whatever the program before was. */
public final class AgainTest {
    private static final String[] PROGRAMS = {
        "header h { a : 8; } use x : h; control { } emit x;",
        "header h { a : 8; b : 8; } use x : h; use y : h; meta m : 8; array r : 8 [4];"
            + " state s { extract x; select x.a { 1 : t; 2 & 3 : u; default : accept; } } state t { extract y; goto u; }"
            + " state u { goto accept; } action f (p : 8, q : 16) { m = p; out_port = q; load x.b r [m]; store r [m] x.a; }"
            + " action g () { drop; } table t1 { key x.a : exact; key valid y : exact; actions f, g; default g ();"
            + " room 2 ways 1 stash 2; } action k (p : 8) { m = p; } table t2 { key x.b : prefix; actions k; default k (3);"
            + " room 3; }"
            + " control { if valid y { apply t1; } else { apply t2; if m == 3 { add y; y.a = m; } } } emit y, x;",
        "header h { abcdefghijk : 16; } header g { a : 64; } use p : h; meta q : 64; array s : 64 [2];"
            + " state only { extract p; goto accept; } action f () { store s [1] q; } action gg (p : 1) { drop; }"
            + " table t { key p.abcdefghijk : masked; actions f; default f (); room 2; }"
            + " control { q = p.abcdefghijk as 64; apply t; if q > 0x100 { take p; } } emit p;",
        "header h { a : 8; } use x : h; state a { select length { 0 : reject; 3 : b; 4 : c; default : reject; } }"
            + " state b { extract x; goto c; } state c { goto accept; } control { out_port = x.a as 16 + 1; drop; } emit x;",
        "header h { a : 8; } use x : h; array r : 8 [4]; array s : 8 [4]; meta m : 8; state z { extract x; goto accept; }"
            + " control { store r [x.a] x.a; m = 1; if m == 1 { store s [2] 5; } } emit x;",
        "header h { a : 8 } use",
        "header h { a : 8; } use x : h; meta q : 64; control { q = q + q + q + q"
    };

    public static void main(String[] args) {
        for (int before = 0; before < PROGRAMS.length; before++) {
            for (int now = 0; now < PROGRAMS.length; now++) {
                PacketWorks used = new PacketWorks();
                stir(used, PROGRAMS[before]);
                told(used::read);
                String got = answers(used, PROGRAMS[now]);
                String want = answers(new PacketWorks(), PROGRAMS[now]);
                Works.due("program " + now + " behind " + before, got.equals(want) ? 1 : 0, 1);
            }
        }
        allAreLaid();
        homelessIsForgotten();
        manyReads();
        stagesAreEmpty();
        Works.done();
    }

    private static void allAreLaid() {
        for (int i = 0; i < 5; i++) {
            Works.due("program " + i + " can be laid", Works.laid(PROGRAMS[i]).count(5) > 0 ? 1 : 0, 1);
        }
    }

    /** Behind read() no operation is left in any of the twelve stages. */
    private static void stagesAreEmpty() {
        String text = "header h{a:8;}use x:h;meta m:8;control{" + Works.times(12, "m=m+1;") + "}emit x;";
        PacketWorks x = Works.laid(text);
        for (int i = 0; i < 12; i++) {
            Works.send(x, 0, i);
        }
        Works.due("run(12)", x.run(12), 0);
        Works.due("count(2)", x.count(2), 12);
        Works.put(x, text);
        Works.due("read()", x.read(), 36);
        Works.due("lay(12, 0, 0)", x.lay(12, 0, 0), 12);
        Works.due("count(2)", x.count(2), 0);
        Works.send(x, 0, 1);
        Works.due("run(12)", x.run(12), 0);
        Works.due("run(1)", x.run(1), 1);
        Works.due("out(0, 4)", x.out(0, 4), 12);
    }

    private static void manyReads() {
        PacketWorks x = new PacketWorks();
        for (int i = 0; i < 30; i++) {
            Works.put(x, "header h{a:8;}use x:h;action f(){" + Works.times(12, "drop;") + "}control{drop;}emit x;");
            Works.due("read", x.read(), 0);
        }
    }

    private static void homelessIsForgotten() {
        PacketWorks x = Works.with("header h { a : 8; } use x : h; control { drop; drop; } emit x;");
        Works.dueThrow("lay", IndexOutOfBoundsException.class, () -> x.lay(1, 0, 0));
        Works.due("homeless()", x.homeless(), 1);
        Works.dueThrow("read", IllegalArgumentException.class, x::read);
        Works.due("homeless()", x.homeless(), -1);
    }

    /** Reads a program and does many things with it: what they answer. */
    private static String stir(PacketWorks x, String text) {
        StringBuilder s = new StringBuilder();
        Works.put(x, text);
        s.append(told(x::read)).append(x.fault(0)).append(' ').append(x.fault(1));
        s.append(told(() -> x.lay(2, 10000, 1000))).append(x.homeless()).append(told(() -> x.lay(12, 10000, 1000)));
        for (int i = 0; i < 10; i++) {
            int n = i;
            x.key(0, i % 5, -1);
            x.key(1, i % 2, -1);
            x.datum(0, i);
            x.datum(1, i * i);
            s.append(told(() -> x.entry(n % 7 == 6 ? 2 : 0, n % 3 == 0 ? 1 : 0, n, n % 2)));
            Works.put(x, Works.bytes(i % 4, i % 3, 3, 4));
            s.append(told(() -> x.packet(n)));
        }
        s.append(told(() -> x.run(30)));
        x.end(3);
        return s.append(told(() -> x.packet(0))).append(told(() -> x.run(5))).toString();
    }

    /** As stir(), and what can be told of it all. An object has 512 calls, so that not all is asked of each operation. */
    private static String answers(PacketWorks x, String text) {
        StringBuilder s = new StringBuilder(stir(x, text));
        s.append(told(() -> x.run(30)));
        for (int i = 0; i < 10; i++) {
            s.append(' ').append(x.size(i)).append(' ').append(x.step(i, 1)).append(' ').append(x.stage(i, 0));
        }
        for (int i = 0; i < 22; i++) {
            s.append(' ').append(x.out(i, i % 2 + 1)).append(' ').append(x.out(i, 4));
            s.append(' ').append(x.byteAt(i, i % 3)).append(' ').append(x.did(i, i % 4));
        }
        for (int i = 0; i < 4; i++) {
            s.append(' ').append(x.count(i)).append(' ').append(x.word(0, i)).append(' ').append(x.entries(i % 2, i / 2));
        }
        return s.toString();
    }

    private interface Call {
        int answer();
    }

    private static String told(Call call) {
        try {
            return " " + call.answer() + " ";
        } catch (RuntimeException e) {
            return " " + e.getClass().getSimpleName() + " ";
        }
    }
}
