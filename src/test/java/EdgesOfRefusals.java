import java.util.ArrayList;
import java.util.List;

/** Every call that is refused: what it throws, which of several, and that it changes nothing but the tape, where it is used up. */
public final class EdgesOfRefusals extends CourtCheck {
    private static final int LEAST = Integer.MIN_VALUE;
    private static final int GREATEST = Integer.MAX_VALUE;
    /** How many witnesses, things, questions and women there are in the court of these tests. */
    private static final int WITNESSES = 3;
    private static final int THINGS = 2;
    private static final int QUESTIONS = 2;
    private static final int WOMEN = 2;

    private static final class Refused {
        final int promise;
        final String name;
        final Class<?> due;
        final Look call;
        final boolean usesTape;

        Refused(int promise, String name, Class<?> due, Look call, boolean usesTape) {
            this.promise = promise;
            this.name = name;
            this.due = due;
            this.call = call;
            this.usesTape = usesTape;
        }
    }

    private static final List<Refused> ALL = new ArrayList<>();

    private interface OneNumber {
        long on(BlushCourt x, int n);
    }

    private interface TwoNumbers {
        long on(BlushCourt x, int n, int m);
    }

    public static void main(String[] args) {
        noSuchOne();
        noSuchTwo();
        numbersThatAreNone();
        twoThatAreOne();
        otherWhats();
        tapes();
        holds(0, "Of several exceptions the one told first is thrown; a call that throws changes nothing but the TAPE, where it is used up");
        for (Refused refused : ALL) {
            promise = refused.promise;
            changesNothing(refused);
        }
        ofNone();
        ofAFullCourt();
        thirteenthText();
        setsOfNone();
        lastCall();
        finish();
    }

    private static void add(int promise, String name, Class<?> due, Look call) {
        ALL.add(new Refused(promise, name, due, call, false));
    }

    private static int[] outside(int count) {
        return new int[] {-1, count, LEAST, GREATEST};
    }

    private static void index(int promise, String name, int count, OneNumber call) {
        for (int n : outside(count)) {
            add(promise, name + " of " + n, INDEX, x -> call.on(x, n));
        }
    }

    /** Each of the two may be none, and both; so may what is none of another kind behind one that is none. */
    private static void indexes(int promise, String name, int count, int other, TwoNumbers call) {
        index(promise, name + ", the first", count, (x, n) -> call.on(x, n, 0));
        index(promise, name + ", the second", other, (x, n) -> call.on(x, 0, n));
        index(promise, name + ", both", Math.max(count, other), (x, n) -> call.on(x, n, n));
    }

    private static void noSuchOne() {
        holds(0, "IndexOutOfBoundsException: there is no such WITNESS, THING, QUESTION, woman, PLACE");
        index(9, "asks", QUESTIONS, (x, n) -> x.asks(n));
        index(10, "sharp", WOMEN, (x, n) -> x.sharp(n));
        index(11, "stands", WITNESSES, (x, n) -> x.stands(n));
        index(13, "say", QUESTIONS, (x, n) -> x.say(n));
        index(17, "tell, true", THINGS, (x, n) -> x.tell(n, true) ? 1 : 0);
        index(17, "tell, false", THINGS, (x, n) -> x.tell(n, false) ? 1 : 0);
        index(19, "powder", WITNESSES, (x, n) -> x.powder(n));
        index(22, "gives", QUESTIONS, (x, n) -> x.gives(n));
        index(32, "tells", QUESTIONS, (x, n) -> x.tells(n));
        index(33, "shared", QUESTIONS, (x, n) -> x.shared(n));
        index(34, "apart", QUESTIONS, (x, n) -> x.apart(n));
        index(53, "led, rows", WITNESSES, (x, n) -> x.led(n, false));
        index(53, "led, moment", WITNESSES, (x, n) -> x.led(n, true));
        for (int n : new int[] {-2, WOMEN, LEAST, GREATEST}) {
            add(41, "couples of " + n, INDEX, x -> x.couples(n));
        }
    }

    private static void noSuchTwo() {
        indexes(20, "rises", QUESTIONS, WITNESSES, (x, n, m) -> x.rises(n, m));
        indexes(21, "seen", QUESTIONS, WOMEN, (x, n, m) -> x.seen(n, m));
        indexes(23, "writes", WOMEN, WITNESSES, (x, n, m) -> x.writes(n, m));
        indexes(35, "row", QUESTIONS, WITNESSES, (x, n, m) -> x.row(n, m));
        indexes(38, "vinegar", WITNESSES, QUESTIONS, (x, n, m) -> x.vinegar(n, m));
        indexes(44, "rests", WITNESSES, QUESTIONS, (x, n, m) -> x.rests(n, m));
        indexes(14, "change", WITNESSES, WITNESSES, (x, n, m) -> x.change(n, m));
        indexes(39, "betrays", WITNESSES, WITNESSES, (x, n, m) -> x.betrays(n, m) ? 1 : 0);
        indexes(42, "between", WITNESSES, WITNESSES, (x, n, m) -> x.between(n, m));
        index(7, "witness", WITNESSES, (x, n) -> x.witness(n, 0));
        index(7, "witness and what", WITNESSES, (x, n) -> x.witness(n, 9));
        index(8, "thing", THINGS, (x, n) -> x.thing(n, 0));
        index(8, "thing and what", THINGS, (x, n) -> x.thing(n, 5));
        index(15, "drink", WITNESSES, (x, n) -> x.drink(n, 1));
        index(15, "drink of nothing", WITNESSES, (x, n) -> x.drink(n, 0));
        index(18, "words", QUESTIONS, (x, n) -> x.words(n, 1));
        index(18, "words of nothing", QUESTIONS, (x, n) -> x.words(n, 0));
        index(50, "ahead", WITNESSES, (x, n) -> x.ahead(n, 0));
        index(50, "ahead by too many", WITNESSES, (x, n) -> x.ahead(n, 61));
    }

    private static void argument(int promise, String name, int least, int most, OneNumber call) {
        for (int n : new int[] {least - 1, most + 1, LEAST, GREATEST}) {
            add(promise, name + " of " + n, ARGUMENT, x -> call.on(x, n));
        }
    }

    private static void numbersThatAreNone() {
        holds(0, "IllegalArgumentException: a number is none, or two are one");
        argument(12, "moments", 1, 60, (x, n) -> x.moments(n));
        argument(15, "drink", 1, 99, (x, n) -> x.drink(WITNESSES - 1, n));
        argument(16, "heat", 0, 9, (x, n) -> x.heat(n));
        argument(45, "odds of n", 0, 5, (x, n) -> x.odds(n, 0));
        argument(45, "odds of k", 0, 5, (x, n) -> x.odds(0, n));
        argument(50, "ahead", 0, 60, (x, n) -> x.ahead(0, n));
        argument(51, "trial, red", 0, 60, (x, n) -> x.trial(n, false));
        argument(51, "trial, all", 0, 60, (x, n) -> x.trial(n, true));
        argument(52, "span, least", 0, 60, (x, n) -> x.span(n, false));
        argument(52, "span, most", 0, 60, (x, n) -> x.span(n, true));
        for (int things : new int[] {0, 1 << THINGS, -(1 << THINGS), LEAST}) {
            add(18, "words of " + things, ARGUMENT, x -> x.words(0, things));
        }
    }

    private static void twoThatAreOne() {
        for (int w = 0; w < WITNESSES; w++) {
            int one = w;
            add(14, "change of one", ARGUMENT, x -> x.change(one, one));
            add(39, "betrays of one", ARGUMENT, x -> x.betrays(one, one) ? 1 : 0);
            add(42, "between of one", ARGUMENT, x -> x.between(one, one));
        }
    }

    private static void otherWhats() {
        for (int what : outside(9)) {
            add(7, "witness(2, " + what + ")", ELEMENT, x -> x.witness(2, what));
        }
        for (int what : outside(5)) {
            add(8, "thing(1, " + what + ")", ELEMENT, x -> x.thing(1, what));
            add(54, "log(0, " + what + ")", ELEMENT, x -> x.log(0, what));
            add(54, "log(-1, " + what + ")", ELEMENT, x -> x.log(-1, what));
            add(54, "log(60, " + what + ")", ELEMENT, x -> x.log(60, what));
        }
    }

    private static void told(int promise, String name, Class<?> due, OneNumber call, int... bytes) {
        ALL.add(new Refused(promise, name + " of " + bytes.length + " bytes", due, x -> {
            feed(x, bytes);
            return call.on(x, 0);
        }, true));
    }

    private static void tapes() {
        int[][] questions = {{0}, {0, 0}, {QUESTIONS, 0, 0}, {0, WITNESSES, 0}, {0, 0, 0, 0}, new int[48]};
        for (int[] bytes : questions) {
            told(27, "fits", ARGUMENT, (x, n) -> x.fits(), bytes);
            told(28, "sure", ARGUMENT, (x, n) -> x.sure(), bytes);
            told(29, "never", ARGUMENT, (x, n) -> x.never(), bytes);
            told(30, "next", ARGUMENT, (x, n) -> x.next(), bytes);
        }
        int[][] women = {{0}, {0, 0}, {WOMEN, 0, 0}, {0, WITNESSES, 0}, {0, 0, 100}, {0, 0, 0, 0}, new int[48]};
        for (int[] bytes : women) {
            told(36, "wrong", ARGUMENT, (x, n) -> x.wrong(), bytes);
            told(37, "shades", ARGUMENT, (x, n) -> x.shades(0), bytes);
            for (int witness : outside(WITNESSES)) {
                told(37, "shades of none", INDEX, (x, n) -> x.shades(witness), bytes);
            }
        }
        for (int witness : outside(WITNESSES)) {
            told(37, "shades of none, a right tape", INDEX, (x, n) -> x.shades(witness), 0, 0, 0);
            told(37, "shades of none, an empty tape", INDEX, (x, n) -> x.shades(witness));
        }
    }

    /** With an image, acts to be undone, rows in the log, a law and a fault, so that any change would be seen. */
    private static BlushCourt fixture() {
        BlushCourt x = told("witness skin 1 shame 9 shade 55;witness skin 2 shame 3 drink 4;witness skin 1 shame 9;"
                + "thing weight 2 touches ac so;thing weight 3 touches b;ask a;ask ab;woman sharp 7;woman sharp 3;false 30;talk 40;moment 5",
                "rise 3 if edge;pass 40");
        x.heat(5);
        x.image();
        x.say(1);
        x.seed(17);
        x.moments(1);
        x.change(0, 1);
        feed(x, "heat 77");
        try {
            x.court();
        } catch (IllegalArgumentException e) {
            return x;
        }
        throw new IllegalStateException("the text is right");
    }

    private static void changesNothing(Refused refused) {
        BlushCourt x = fixture();
        if (!refused.usesTape) {
            feed(x, "heat 8");
        }
        BlushCourt due = fixture();
        fails(refused.name, refused.due, () -> refused.call.on(x));
        same(refused.name + " changes nothing", state(x), state(due));
        if (refused.usesTape) {
            is(refused.name + " uses the tape up", x.feed(0, 0, 0, 0, 0), 20);
        } else {
            is(refused.name + " leaves the tape", x.end(7) ? 1 : x.end(6) ? 0 : 2, 0);
        }
        while (x.undo()) {
            due.undo();
        }
        same(refused.name + " leaves what can be undone", scene(x), scene(due));
        imageStays(refused);
    }

    private static void imageStays(Refused refused) {
        BlushCourt x = fixture();
        BlushCourt due = fixture();
        fails(refused.name, refused.due, () -> refused.call.on(x));
        is("back", x.back(), due.back());
        same(refused.name + " leaves the image", scene(x), scene(due));
    }

    private static void ofNone() {
        holds(1, "A court without WITNESSES");
        BlushCourt x = new BlushCourt();
        is("witnesses", x.count(0), 0);
        fails("witness(0, 0)", INDEX, () -> x.witness(0, 0));
        fails("witness(0, 9)", INDEX, () -> x.witness(0, 9));
        fails("thing(0, 0)", INDEX, () -> x.thing(0, 0));
        fails("asks(0)", INDEX, () -> x.asks(0));
        fails("sharp(0)", INDEX, () -> x.sharp(0));
        fails("stands(0)", INDEX, () -> x.stands(0));
        fails("say(0)", INDEX, () -> x.say(0));
        fails("change(0, 0)", INDEX, () -> x.change(0, 0));
        fails("drink(0, 0)", INDEX, () -> x.drink(0, 0));
        fails("tell(0, true)", INDEX, () -> x.tell(0, true));
        fails("words(0, 0)", INDEX, () -> x.words(0, 0));
        fails("powder(0)", INDEX, () -> x.powder(0));
        fails("rises(0, 0)", INDEX, () -> x.rises(0, 0));
        fails("seen(0, 0)", INDEX, () -> x.seen(0, 0));
        fails("gives(0)", INDEX, () -> x.gives(0));
        fails("writes(0, 0)", INDEX, () -> x.writes(0, 0));
        fails("tells(0)", INDEX, () -> x.tells(0));
        fails("shared(0)", INDEX, () -> x.shared(0));
        fails("apart(0)", INDEX, () -> x.apart(0));
        fails("row(0, 0)", INDEX, () -> x.row(0, 0));
        fails("shades(0)", INDEX, () -> x.shades(0));
        fails("vinegar(0, 0)", INDEX, () -> x.vinegar(0, 0));
        fails("betrays(0, 0)", INDEX, () -> x.betrays(0, 0));
        fails("couples(0)", INDEX, () -> x.couples(0));
        fails("between(0, 0)", INDEX, () -> x.between(0, 0));
        fails("rests(0, 0)", INDEX, () -> x.rests(0, 0));
        fails("ahead(0, 61)", INDEX, () -> x.ahead(0, 61));
        fails("led(0, true)", INDEX, () -> x.led(0, true));
        same("nothing changed", state(x), state(new BlushCourt()));
    }

    private static BlushCourt full() {
        BlushCourt x = told(times(5, "witness skin 1 shame 9") + ";" + times(6, "thing weight 1 touches abcde so"));
        court(x, times(8, "ask a") + ";" + times(4, "woman sharp 1"));
        return x;
    }

    private static void ofAFullCourt() {
        holds(0, "IndexOutOfBoundsException: there is no such WITNESS, THING, QUESTION, woman, PLACE");
        BlushCourt x = full();
        is("witness(4, 8)", x.witness(4, 8), 255);
        is("thing(5, 4)", x.thing(5, 4), NONE);
        is("asks(7)", x.asks(7), 1);
        is("sharp(3)", x.sharp(3), 1);
        is("stands(4)", x.stands(4), 4);
        is("rises(7, 4)", x.rises(7, 4), 15);
        is("seen(7, 3)", x.seen(7, 3), 31);
        is("gives(7)", x.gives(7), 0);
        is("writes(3, 4)", x.writes(3, 4), 0);
        is("tells(7)", x.tells(7), 2);
        is("shared(7)", x.shared(7), 0);
        is("apart(7)", x.apart(7), 0);
        is("row(7, 4)", x.row(7, 4), 4);
        is("shades(4)", x.shades(4), 100);
        is("vinegar(4, 7)", x.vinegar(4, 7), NONE);
        is("betrays(4, 3)", x.betrays(4, 3), false);
        is("couples(3)", x.couples(3), NONE);
        is("between(4, 3)", x.between(4, 3), 0);
        is("rests(4, 7)", x.rests(4, 7), 0);
        is("ahead(4, 60)", x.ahead(4, 60), 0);
        is("alone", x.alone(), 1);
        is("blind", x.blind(), 0);
        is("dark", x.dark(), 62);
        is("fits", x.fits(), 64);
        is("sure", x.sure(), 0);
        is("never", x.never(), 0);
        is("next", x.next(), 0);
        is("wrong", x.wrong(), 0);
        is("heats", x.heats(), 0);
        is("pale", x.pale(), 0);
        is("reddest", x.reddest(), 0);
        is("palest", x.palest(), 0);
        is("twins", x.twins(), 10);
        is("weightiest", x.weightiest(), 0);
        is("so", x.so(), 63);
        is("trial(60, false)", x.trial(60, false), 0);
        is("trial(60, true)", x.trial(60, true), 0);
        is("span(60, true)", x.span(60, true), 0);
        is("couples(NONE)", x.couples(NONE), 0);
        is("say(7)", x.say(7), 31);
        is("led(4, false)", x.led(4, false), 1);
        is("change(4, 3)", x.change(4, 3), 3);
        is("drink(4, 99)", x.drink(4, 99), 99);
        is("tell(5, true)", x.tell(5, true), false);
        is("words(7, 32)", x.words(7, 32), 1);
        is("powder(4)", x.powder(4), 15);
        BlushCourt red = full();
        for (int i = 0; i < 12; i++) {
            red.say(i % 8);
        }
        is("as red as can be", red.count(8), 5 * 99);
        is("who is red", red.trial(0, false), 31);
        is("found out no more", red.witness(4, 8), 0);
        is("all are blind", red.blind(), 15);
        is("vinegar(4, 7) of the reddest", red.vinegar(4, 7), 0);
        is("pale", red.pale(), 15);
        is("moments(60)", red.moments(60), 0);
        fails("witness(5, 0)", INDEX, () -> x.witness(5, 0));
        fails("thing(6, 0)", INDEX, () -> x.thing(6, 0));
        fails("asks(8)", INDEX, () -> x.asks(8));
        fails("sharp(4)", INDEX, () -> x.sharp(4));
        fails("stands(5)", INDEX, () -> x.stands(5));
        fails("couples(4)", INDEX, () -> x.couples(4));
        fails("tell(6, true)", INDEX, () -> x.tell(6, true));
        fails("words(8, 1)", INDEX, () -> x.words(8, 1));
        fails("words(7, 64)", ARGUMENT, () -> x.words(7, 64));
    }

    private static void setsOfNone() {
        holds(18, "Sets are bits; of none they count for nothing");
        BlushCourt x = told("thing weight 1 so;thing weight 2;ask a;woman sharp 1");
        is("bits of things that are none", x.words(0, -2), 1);
        is("the one that there is", x.asks(0), 2);
        is("so of two", x.so(), 1);
        is("never, with nothing told", x.never(), 0);
        is("women who see nobody", x.blind(), 1);
        is("whom a thing touches of none", x.thing(0, 1), 0);
        is("who rises of none", x.say(0), 0);
        is("who is red of none", x.trial(0, false), 0);
        is("wrong of none", x.wrong(), 0);
    }

    private static void lastCall() {
        holds(0, "An object is used for at most 512 calls after it has been made");
        BlushCourt x = new BlushCourt();
        for (int call = 1; call < 512; call++) {
            is("call " + call, x.heat(call % 10), call == 1 ? 3 : (call - 1) % 10);
        }
        is("call 512", x.count(10), 12);
    }

    private static void thirteenthText() {
        holds(4, "IllegalArgumentException: it is wrong; UnsupportedOperationException: there are 12");
        BlushCourt x = fixture();
        BlushCourt due = fixture();
        for (int n = 2; n <= 12; n++) {
            is("text", court(x, ""), n);
            is("text", court(due, ""), n);
        }
        x.say(0);
        due.say(0);
        feed(x, "witness skin 1 shame 1;heat 9");
        fails("a 13th text", UNSUPPORTED, () -> x.court());
        same("changes nothing", state(x), state(due));
        is("the tape is used up", x.feed(0, 0, 0, 0, 0), 20);
        courtFault(x, "witness skin 1 shame 1;heat 9;^x");
        same("nor does one that is wrong, too", scene(x), scene(due));
        is("acts are remembered still", x.undo(), true);
    }
}
