import java.util.Random;

/** Any calls in any state: nothing but what the document names is thrown, and all answers stay in their ranges. */
public final class WildCallsTest {
    private static final String PROGRAM = "header eth { dst : 16; kind : 8; } header ip { ttl : 8; src : 32; dst : 32; }\n"
            + "use e : eth; use i : ip; meta hop : 16; array seen : 16 [8]; array big : 64 [64];\n"
            + "state start { extract e; select e.kind { 8 : net; 0 & 0xf0 : accept; default : reject; } }\n"
            + "state net { extract i; goto accept; }\n"
            + "action go (port : 16, next : 16) { out_port = port; hop = next; i.ttl = i.ttl - 1; }\n"
            + "action gone () { drop; } action mark (dst : 16) { e.dst = dst; store big [dst] i.src ++ i.dst; }\n"
            + "table routes { key i.dst : prefix; key e.kind : exact; actions go, gone; default gone (); room 8; }\n"
            + "table hops { key hop : exact; actions mark, gone; default mark (0xffff); room 2 ways 1 stash 1; }\n"
            + "table any { key hop : masked; key (e.kind ? 1 : 0) : masked; actions gone; default go (1, 2); room 3; }\n"
            + "control { if valid i { if i.ttl == 0 || (e.kind == 1 ? !valid e : 1) { drop; } else { apply routes;\n"
            + "apply hops; store seen [i.src[2:0]] out_port << 2 + hop[3:0] ++ hop[11:0]; } } else { out_port = in_port + 1;\n"
            + "add i; i.src = (e.kind ++ e.dst ++ 1 as 8); take e; } } emit e, i;";

    private static final int[] EDGES = {Integer.MIN_VALUE, -2, -1, 0, 1, 2, 3, 4, 5, 7, 8, 11, 12, 13, 19, 20, 21, 39, 40,
        41, 47, 48, 63, 64, 65, 100, 101, 127, 128, 129, 255, 1000, 100000, Integer.MAX_VALUE};

    public static void main(String[] args) {
        for (int seed = 0; seed < 3000; seed++) {
            Random random = new Random(seed);
            PacketWorks x = new PacketWorks();
            if (seed % 3 > 0) {
                String text = seed % 3 == 1 ? PROGRAM : changed(PROGRAM, random);
                Works.put(x, text);
                calm(() -> x.read());
                calm(() -> x.lay(12, 100000, 1000));
            }
            for (int call = 0; call < 300; call++) {
                wild(x, random);
            }
        }
        Works.done();
    }

    /** Some bytes of a text are others, gone, or there twice. */
    private static String changed(String text, Random random) {
        StringBuilder s = new StringBuilder(text);
        for (int i = 0; i < 1 + random.nextInt(3); i++) {
            int at = random.nextInt(s.length());
            int from = random.nextInt(s.length() - 1);
            String part = s.substring(from, Math.min(s.length(), from + 1 + random.nextInt(8)));
            switch (random.nextInt(4)) {
                case 0: s.deleteCharAt(at); break;
                case 1: s.insert(at, part); break;
                case 2: s.setCharAt(at, (char) random.nextInt(256)); break;
                default: s.setLength(Math.max(2, random.nextInt(8) == 0 ? at : s.length()));
            }
        }
        return s.toString();
    }

    private static int some(Random random) {
        return random.nextInt(3) > 0 ? random.nextInt(12) : EDGES[random.nextInt(EDGES.length)];
    }

    private static void wild(PacketWorks x, Random random) {
        int a = some(random);
        int b = some(random);
        int c = some(random);
        int d = some(random);
        long v = random.nextBoolean() ? random.nextInt(16) : random.nextLong();
        long m = random.nextBoolean() ? -1 : random.nextLong();
        switch (random.nextInt(24)) {
            case 0: x.feed(a, b, c, d, random.nextInt()); break;
            case 1: case 2: calm(() -> x.end(a)); break;
            case 3: if (random.nextInt(20) == 0) { calm(() -> x.read()); } break;
            case 4: x.fault(a); break;
            case 5: x.size(a); break;
            case 6: calm(() -> x.lay(a, b, c)); break;
            case 7: x.homeless(); break;
            case 8: x.step(a, b); break;
            case 9: x.stage(a, b); break;
            case 10: case 11: calm(() -> x.packet(a)); break;
            case 12: calm(() -> x.key(a, v, m)); break;
            case 13: calm(() -> x.datum(a, v)); break;
            case 14: case 15: case 16: calm(() -> x.entry(a % 4, b % 4, c, d % 4)); break;
            case 17: calm(() -> x.run(a)); break;
            case 18: x.out(a, b); break;
            case 19: inRange(x.byteAt(a, b), -1, 255); break;
            case 20: x.did(a, b); break;
            case 21: calm(() -> x.word(a, b)); break;
            case 22: calm(() -> x.entries(a, b)); break;
            default: inRange(x.count(1), 0, 40);
        }
    }

    private static void inRange(int got, int least, int most) {
        Works.due("an answer in its range", got >= least && got <= most ? 1 : 0, 1);
    }

    /** Exceptions of the document's three classes are fine, those of classes below them are the machine's own. */
    private static void calm(Runnable call) {
        try {
            call.run();
        } catch (RuntimeException e) {
            boolean named = e.getClass() == IllegalStateException.class || e.getClass() == IllegalArgumentException.class
                    || e.getClass() == IndexOutOfBoundsException.class;
            Works.due("an exception that the document names, not " + e, named ? 1 : 0, 1);
        }
    }
}
