import java.nio.charset.StandardCharsets;
import java.util.NoSuchElementException;

/** What the tests share: counting wrong answers, and putting texts on the tape. */
final class Check {
    private int wrong = 0;
    private int asked = 0;

    void due(String call, long got, long want) {
        asked++;
        if (got != want) {
            wrong++;
            if (wrong <= 40) {
                System.out.println(call + " answered " + got + ", due is " + want);
            }
        }
    }

    void due(String call, boolean got, boolean want) {
        due(call, got ? 1 : 0, want ? 1 : 0);
    }

    /** A call that was refused: its answer was NONE, and TROUBLE tells why. */
    void refused(String call, ChaletRule x, long got, int trouble) {
        due(call, got, -1);
        due(call + ": trouble", x.trouble(), trouble);
    }

    void end(String name) {
        System.out.println(name + ": " + asked + " answers, " + wrong + " wrong");
        if (wrong != 0 || asked == 0) {
            System.exit(1);
        }
    }

    /** What led() answers, -1000 if it throws as it should. */
    static int led(ChaletRule x, int i) {
        try {
            return x.led(i);
        } catch (NoSuchElementException e) {
            return -1000;
        }
    }

    static void put(ChaletRule x, byte[] bytes) {
        for (int at = 0; at < bytes.length; at += 20) {
            int[] five = new int[5];
            for (int i = 0; i < 20; i++) {
                int b = at + i < bytes.length ? bytes[at + i] & 255 : ' ';
                five[i / 4] = five[i / 4] << 8 | b;
            }
            x.feed(five[0], five[1], five[2], five[3], five[4]);
        }
    }

    /** Puts a text on the tape and has it read: what chalet() answers. */
    static int read(ChaletRule x, String text) {
        byte[] bytes = text.getBytes(StandardCharsets.ISO_8859_1);
        put(x, bytes);
        return x.chalet(bytes.length);
    }

    static ChaletRule with(String text) {
        ChaletRule x = new ChaletRule();
        if (read(x, text) < 0) {
            throw new IllegalStateException("fault " + x.fault() + " at " + x.where() + " in " + text);
        }
        return x;
    }
}
