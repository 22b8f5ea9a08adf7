import java.nio.charset.StandardCharsets;

/** What the tests share: texts and bytes come to an object, answers are held against those that are due. */
final class Works {
    private static int looked;
    private static int wrong;
    private static String sentence = "";

    private Works() {
    }

    /** The sentence of the document that what follows holds against the class; it is told with each wrong answer. */
    static void sentence(String words) {
        sentence = "[" + words + "] ";
    }

    /** Long texts are told without their middle. */
    private static void tell(String words) {
        wrong++;
        int length = words.length();
        String told = length < 700 ? words : words.substring(0, 300) + " .. " + words.substring(length - 300);
        System.out.println(sentence + told);
    }

    static void due(String call, long got, long want) {
        looked++;
        if (got != want) {
            tell(call + " answered " + got + ", due is " + want);
        }
    }

    static void dueThrow(String call, Class<? extends RuntimeException> want, Runnable what) {
        looked++;
        try {
            what.run();
        } catch (RuntimeException e) {
            if (e.getClass() != want) {
                tell(call + " threw " + e + ", due is " + want.getSimpleName());
            }
            return;
        }
        tell(call + " threw nothing, due is " + want.getSimpleName());
    }

    /** A text in which @ tells the place of its fault. */
    static void fault(int kind, String marked) {
        PacketWorks x = new PacketWorks();
        int place = marked.indexOf('@');
        put(x, marked.replace("@", ""));
        dueThrow("read() of " + marked, IllegalArgumentException.class, x::read);
        due("fault(0) of " + marked, x.fault(0), kind);
        due("fault(1) of " + marked, x.fault(1), place);
        due("size(0) of " + marked, x.size(0), -1);
    }

    /** A text without a fault: how many nodes it has. */
    static int fine(String text) {
        PacketWorks x = new PacketWorks();
        put(x, text);
        looked++;
        int nodes = -1;
        try {
            nodes = x.read();
        } catch (IllegalArgumentException e) {
            tell("read() of " + text + " has the fault " + x.fault(0) + " at " + x.fault(1) + ", due is none");
            return nodes;
        }
        due("fault(0) of " + text, x.fault(0), 0);
        due("fault(1) of " + text, x.fault(1), -1);
        return nodes;
    }

    /** Puts bytes on the tape: how many end() told at last. */
    static int put(PacketWorks x, byte[] bytes) {
        int told = 0;
        for (int i = 0; i < bytes.length; i += 20) {
            int n = Math.min(20, bytes.length - i);
            int[] words = new int[5];
            for (int k = 0; k < n; k++) {
                words[k / 4] |= (bytes[i + k] & 255) << 24 - 8 * (k % 4);
            }
            x.feed(words[0], words[1], words[2], words[3], words[4]);
            told = x.end(n);
        }
        return told;
    }

    static int put(PacketWorks x, String text) {
        return put(x, text.getBytes(StandardCharsets.ISO_8859_1));
    }

    static byte[] bytes(int... values) {
        byte[] row = new byte[values.length];
        for (int i = 0; i < values.length; i++) {
            row[i] = (byte) values[i];
        }
        return row;
    }

    /** A new object with a program that has no fault. */
    static PacketWorks with(String text) {
        PacketWorks x = new PacketWorks();
        put(x, text);
        x.read();
        return x;
    }

    /** As with(), and laid with room for all. */
    static PacketWorks laid(String text) {
        PacketWorks x = with(text);
        x.lay(12, Integer.MAX_VALUE, Integer.MAX_VALUE);
        return x;
    }

    static int send(PacketWorks x, int port, int... bytes) {
        put(x, bytes(bytes));
        return x.packet(port);
    }

    /** The bytes of an operation that went out, as they are told one by one. */
    static String sent(PacketWorks x, int operation) {
        StringBuilder s = new StringBuilder();
        for (int i = 0; i < x.out(operation, 3); i++) {
            s.append(String.format("%02x", x.byteAt(operation, i)));
        }
        return s.toString();
    }

    static void dueBytes(String call, PacketWorks x, int operation, String want) {
        looked++;
        String got = sent(x, operation);
        if (!got.equals(want)) {
            tell(call + ": bytes " + got + ", due are " + want);
        }
    }

    static String times(int n, String part) {
        StringBuilder s = new StringBuilder();
        for (int i = 0; i < n; i++) {
            s.append(part.replace("#", String.valueOf(i)));
        }
        return s.toString();
    }

    static void done() {
        System.out.println(looked + " answers looked at, " + wrong + " not as due");
        if (wrong > 0 || looked == 0) {
            System.exit(1);
        }
    }
}
