import java.io.IOException;
import java.nio.file.Files;
import java.nio.file.Path;
import java.util.NoSuchElementException;

/** What the tests share: checks that tell the promise and the words of the document that they hold to. */
class CourtCheck {
    static final Class<?> INDEX = IndexOutOfBoundsException.class;
    static final Class<?> ARGUMENT = IllegalArgumentException.class;
    static final Class<?> ELEMENT = NoSuchElementException.class;
    static final Class<?> UNSUPPORTED = UnsupportedOperationException.class;
    static final int NONE = BlushCourt.NONE;

    static final int PROMISES = 59;

    static int promise = 0;
    private static final Path DOC = Path.of("../shared/DOC.md");
    private static String document = null;
    private static String words = "";
    private static int wrong = 0;
    private static int checks = 0;
    private static final String[] quoted = new String[PROMISES + 1];
    private static final int[] checksOf = new int[PROMISES + 1];

    interface Call {
        void run();
    }

    interface Look {
        long on(BlushCourt x);
    }

    interface Maker {
        BlushCourt make();
    }

    /** The checks that follow hold to these words, which must stand in the document just so. */
    static void holds(int number, String said) {
        promise = number;
        words = said;
        quoted[number] = said;
        if (!document().contains(said)) {
            wrong++;
            System.out.println("promise " + number + ": the document does not say: " + said);
        }
    }

    /** The checks that follow are of a promise again, and hold to the words that were quoted for it latest. */
    static void about(int number) {
        promise = number;
        words = quoted[number] == null ? "" : quoted[number];
    }

    /** Each promise has been checked here, so that none is left without a test by mistake. */
    static void needEachPromise() {
        for (int number = 1; number <= PROMISES; number++) {
            if (checksOf[number] == 0) {
                wrong++;
                System.out.println("promise " + number + " is not checked");
            }
        }
    }

    static String document() {
        if (document == null) {
            try {
                document = Files.readString(DOC).replaceAll("\\s+", " ");
            } catch (IOException e) {
                throw new IllegalStateException("the document is not there", e);
            }
        }
        return document;
    }

    private static void tell(String what, Object got, Object due) {
        wrong++;
        System.out.println("promise " + promise + ": " + what + " answered " + got + ", due is " + due
                + (words.isEmpty() ? "" : " (" + words + ")"));
    }

    private static void count() {
        checks++;
        checksOf[promise]++;
    }

    static void is(String what, long got, long due) {
        count();
        if (got != due) {
            tell(what, got, due);
        }
    }

    static void is(String what, boolean got, boolean due) {
        is(what, got ? 1 : 0, due ? 1 : 0);
    }

    static void same(String what, String got, String due) {
        count();
        if (!got.equals(due)) {
            tell(what, got, due);
        }
    }

    static void fails(String what, Class<?> due, Call call) {
        count();
        String got = "nothing";
        try {
            call.run();
        } catch (RuntimeException e) {
            got = e.getClass().getSimpleName();
        }
        if (!got.equals(due.getSimpleName())) {
            tell(what, "throws." + got, "throws." + due.getSimpleName());
        }
    }

    static void finish() {
        System.out.println(checks + " checks, " + wrong + " wrong");
        if (wrong != 0) {
            System.exit(1);
        }
    }

    static void feed(BlushCourt x, int... bytes) {
        x.end(0);
        for (int i = 0; i < bytes.length; i += 20) {
            int[] five = new int[5];
            for (int k = 0; k < 20; k++) {
                five[k / 4] = five[k / 4] << 8 | (i + k < bytes.length ? bytes[i + k] : 0);
            }
            x.feed(five[0], five[1], five[2], five[3], five[4]);
        }
        x.end(bytes.length);
    }

    static void feed(BlushCourt x, String text) {
        feed(x, text.chars().toArray());
    }

    static int court(BlushCourt x, String text) {
        feed(x, text);
        return x.court();
    }

    static int law(BlushCourt x, String text) {
        feed(x, text);
        return x.law();
    }

    static BlushCourt told(String text) {
        BlushCourt x = new BlushCourt();
        court(x, text);
        return x;
    }

    static BlushCourt told(String text, String law) {
        BlushCourt x = told(text);
        law(x, law);
        return x;
    }

    /** A line as often as told, with ; between. */
    static String times(int n, String line) {
        return (line + ";").repeat(n).replaceAll(";$", "");
    }

    static int[] rows(int n, int... row) {
        int[] bytes = new int[3 * n];
        for (int i = 0; i < bytes.length; i++) {
            bytes[i] = row[i % 3];
        }
        return bytes;
    }

    /** A text of the court in which ^ stands ahead of the first wrong byte; without it the text is right. */
    static void courtFault(BlushCourt x, String marked) {
        feed(x, marked.replace("^", ""));
        faultOf(x, marked, () -> x.court());
    }

    static void courtFault(String marked) {
        courtFault(new BlushCourt(), marked);
    }

    static void lawFault(BlushCourt x, String marked) {
        feed(x, marked.replace("^", ""));
        faultOf(x, marked, () -> x.law());
    }

    static void lawFault(String marked) {
        lawFault(new BlushCourt(), marked);
    }

    private static void faultOf(BlushCourt x, String marked, Call call) {
        int at = marked.indexOf('^');
        if (at < 0) {
            String got = "right";
            try {
                call.run();
            } catch (RuntimeException e) {
                got = e.getClass().getSimpleName();
            }
            same(marked, got, "right");
        } else {
            fails(marked, ARGUMENT, call);
        }
        is("fault of " + marked, x.fault(), at);
        is("the tape is used up by " + marked, x.feed(0, 0, 0, 0, 0), 20);
        x.end(0);
    }

    /** All that can be read of an object, but for the tape and the image, and does not change it. */
    static String state(BlushCourt x) {
        return scene(x) + " acts " + x.count(10) + " fault " + x.fault();
    }

    /** What an image keeps, and what an act that is undone brings back: some 160 calls, and 5 a row of the log. */
    static String scene(BlushCourt x) {
        StringBuilder b = new StringBuilder();
        int[] count = new int[10];
        for (int what = 0; what < count.length; what++) {
            count[what] = x.count(what);
            b.append(count[what]).append(' ');
        }
        int seed = x.seed(0);
        x.seed(seed);
        b.append("seed ").append(seed).append(" so ").append(x.so());
        b.append(" false ").append(x.odds(1, 1)).append(" talk ").append(x.trial(60, true)).append(' ').append(x.trial(7, true));
        for (int w = 0; w < count[0]; w++) {
            b.append(" witness ").append(x.stands(w));
            for (int what = 0; what < 9; what++) {
                b.append(' ').append(x.witness(w, what));
            }
        }
        for (int t = 0; t < count[1]; t++) {
            b.append(" thing");
            for (int what = 0; what < 5; what++) {
                b.append(' ').append(x.thing(t, what));
            }
        }
        for (int q = 0; q < count[2]; q++) {
            b.append(" ask ").append(x.asks(q));
            for (int w = 0; w < count[0]; w++) {
                b.append(' ').append(x.rises(q, w));
            }
        }
        for (int woman = 0; woman < count[3]; woman++) {
            b.append(" sharp ").append(x.sharp(woman));
        }
        for (int ago = 0; ago < count[9]; ago++) {
            b.append(" log");
            for (int what = 0; what < 5; what++) {
                b.append(' ').append(x.log(ago, what));
            }
        }
        return b.toString();
    }

    /** The n-th draw from a seed on, as the document tells it: bits 16 to 30 of an int that goes round. */
    static int drawn(int seed, int nth) {
        return afterDraws(seed, nth) >> 16 & 0x7fff;
    }

    static int afterDraws(int seed, int draws) {
        long s = seed;
        for (int i = 0; i < draws; i++) {
            s = (int) (1103515245L * s + 12345L);
        }
        return (int) s;
    }

    /** The least seed from 0 on whose n-th draw modulo 100 is that number. */
    static int seedOf(int nth, int modulo100) {
        int seed = 0;
        while (drawn(seed, nth) % 100 != modulo100) {
            seed++;
        }
        return seed;
    }
}
