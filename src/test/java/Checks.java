import java.nio.charset.StandardCharsets;

/** Counts answers that are not the due ones, and does what several tests need. */
final class Checks {
    private int calls = 0;
    private int wrong = 0;
    private int sentences = 0;
    private String about = "";

    /** The promise, and the words of the document, that the answers from here on are about. */
    void sentence(int promise, String words) {
        sentences++;
        about = "promise " + promise + ", \"" + words + "\": ";
    }

    void due(String call, long got, long want) {
        calls++;
        if (got != want) {
            wrong++;
            System.out.println(about + call + " answered " + got + ", due is " + want);
        }
    }

    void due(String call, boolean got, boolean want) {
        due(call, got ? 1L : 0L, want ? 1L : 0L);
    }

    /** Ends the program with 1 if an answer was wrong. */
    void finish() {
        String asked = sentences == 0 ? calls + " answers" : calls + " answers to " + sentences + " sentences";
        System.out.println(wrong == 0 ? asked + ", all as due" : wrong + " answers are not as due");
        if (wrong != 0) {
            System.exit(1);
        }
    }

    /** Puts a text on the TAPE, which must be empty. */
    static void write(StoneWorks x, String text) {
        byte[] bytes = text.getBytes(StandardCharsets.ISO_8859_1);
        byte[] padded = new byte[(bytes.length + 19) / 20 * 20];
        System.arraycopy(bytes, 0, padded, 0, bytes.length);
        for (int at = 0; at < padded.length; at += 20) {
            x.feed(number(padded, at), number(padded, at + 4), number(padded, at + 8),
                    number(padded, at + 12), number(padded, at + 16));
        }
        x.end(bytes.length);
    }

    /** What table() answers for a text. */
    static int tableOf(StoneWorks x, String text) {
        write(x, text);
        return x.table();
    }

    static int number(byte[] bytes, int at) {
        return (bytes[at] & 255) << 24 | (bytes[at + 1] & 255) << 16 | (bytes[at + 2] & 255) << 8 | bytes[at + 3] & 255;
    }

    /** An answer of table() with a FAULT. */
    static int fault(int place, int kind) {
        return -2 - (1 + 4 * place + kind);
    }
}
