/** The edges of acts undone and of the image: what comes back, what does not, how many are remembered, and what forgets them. */
public final class EdgesOfUndoing extends CourtCheck {
    private static final String COURT = "witness skin 1 shame 9 shade 55;witness skin 2 shame 3 drink 4;witness skin 1 shame 9;"
            + "thing weight 2 touches ac so;thing weight 3 touches b;ask a;ask ab;woman sharp 7;woman sharp 3;false 30;talk 60;moment 5";
    private static final String LAW = "rise 3 if edge;pass 40;fall 2 if red";

    /** Each kind of act, and some that change nothing that can be seen. */
    private static final Look[] ACTS = {x -> x.moments(1), x -> x.moments(3), x -> x.say(1), x -> x.change(0, 2), x -> x.drink(1, 5), x -> x.heat(7),
        x -> x.tell(1, true) ? 1 : 0, x -> x.tell(1, true) ? 1 : 0, x -> x.words(0, 2), x -> x.powder(0), x -> x.heat(7), x -> x.tell(0, false) ? 1 : 0};

    /** All that is asked changes nothing and is none; nor are seeds, an image, the tape and what was undone. */
    private static final Look[] NO_ACTS = {x -> x.fault(), x -> x.witness(0, 8), x -> x.thing(0, 4), x -> x.asks(0), x -> x.sharp(0), x -> x.stands(0),
        x -> x.rises(0, 0), x -> x.seen(0, 0), x -> x.gives(0), x -> x.writes(0, 0), x -> x.pale(), x -> x.reddest(), x -> x.palest(),
        x -> x.fits(), x -> x.sure(), x -> x.never(), x -> x.next(), x -> x.dark(), x -> x.tells(0), x -> x.shared(0), x -> x.apart(0),
        x -> x.row(0, 0), x -> x.wrong(), x -> x.shades(0), x -> x.vinegar(0, 0), x -> x.betrays(0, 1) ? 1 : 0, x -> x.heats(), x -> x.couples(0),
        x -> x.between(0, 2), x -> x.alone(), x -> x.rests(0, 0), x -> x.odds(5, 1), x -> x.weightiest(), x -> x.twins(), x -> x.blind(), x -> x.so(),
        x -> x.ahead(0, 60), x -> x.trial(60, true), x -> x.span(60, true), x -> x.led(0, true), x -> x.log(0, 0), x -> x.seed(9),
        x -> x.undo() ? 1 : 0, x -> x.count(10), x -> x.feed(1, 2, 3, 4, 5), x -> x.end(0) ? 1 : 0, x -> { x.image(); return 0; }};

    public static void main(String[] args) {
        eachAct();
        twelve();
        moments();
        undoneAndDone();
        notUndone();
        forgotten();
        notForgotten();
        seeds();
        image();
        imageOfAll();
        noImage();
        finish();
    }

    private static BlushCourt made() {
        return told(COURT, LAW);
    }

    private static BlushCourt behind(int acts) {
        BlushCourt x = made();
        for (int i = 0; i < acts; i++) {
            ACTS[i].on(x);
        }
        return x;
    }

    private static void eachAct() {
        holds(56, "ACTS: MOMENTS; a QUESTION is said; two change PLACES; one drinks vinegar (DRINK is more, 99 at most); HEAT is told; "
                + "a THING is SO from then on, or not; a QUESTION says other THINGS; a WITNESS is powdered (SHADE 0)");
        for (Look act : ACTS) {
            BlushCourt x = made();
            act.on(x);
            is("an act is one that can be undone", x.count(10), 1);
        }
        for (Look call : NO_ACTS) {
            BlushCourt x = made();
            call.on(x);
            is("no act", x.count(10), 0);
            is("nothing to be undone", x.undo(), false);
        }
        holds(56, "UNDONE: the latest ACT not undone yet");
        for (int n = 0; n < ACTS.length; n++) {
            BlushCourt x = behind(n + 1);
            is("acts behind " + (n + 1), x.count(10), n + 1);
            is("undo", x.undo(), true);
            same("all is as ahead of act " + n, state(x), state(behind(n)));
        }
        for (int n = 0; n <= ACTS.length; n++) {
            BlushCourt x = behind(ACTS.length);
            for (int i = ACTS.length; i > n; i--) {
                is("undo", x.undo(), true);
            }
            same("all is as ahead of act " + n, state(x), state(behind(n)));
        }
        holds(56, "UNDONE: whether there was one");
        is("none at first", new BlushCourt().undo(), false);
        BlushCourt y = behind(1);
        is("one", y.undo(), true);
        is("no more", y.undo(), false);
        same("nothing happens", state(y), state(made()));
    }

    private static void twelve() {
        holds(56, "12 are remembered");
        for (int acts : new int[] {11, 12, 13, 24, 25}) {
            BlushCourt x = made();
            for (int i = 0; i < acts; i++) {
                x.drink(0, 1);
            }
            int remembered = Math.min(12, acts);
            is("acts of " + acts, x.count(10), remembered);
            for (int i = 1; i <= remembered; i++) {
                is("undo " + i, x.undo(), true);
                is("drink", x.witness(0, 2), acts - i);
                is("acts", x.count(10), remembered - i);
            }
            is("one more", x.undo(), false);
            is("drink", x.witness(0, 2), acts - remembered);
        }
    }

    private static void moments() {
        holds(56, "MOMENTS of one call are one");
        BlushCourt x = made();
        x.moments(60);
        is("one act", x.count(10), 1);
        is("undo", x.undo(), true);
        same("all sixty", state(x), state(made()));
        BlushCourt y = made();
        y.moments(1);
        y.moments(2);
        is("two acts", y.count(10), 2);
        y.undo();
        is("the latter call alone", y.count(6), 6);
        BlushCourt full = told(times(5, "witness skin 0 shame 5") + ";thing weight 1 touches abcde so;ask a", "");
        full.say(0);
        full.moments(1);
        for (int i = 1; i < 12; i++) {
            full.say(0);
        }
        is("rows", full.count(9), 60);
        is("the moment of the oldest", full.log(59, 0), 0);
        full.say(0);
        is("the log is full", full.count(9), 60);
        is("the moment of the oldest", full.log(59, 0), 1);
        full.undo();
        is("rows that were cut come back", full.log(59, 0), 0);
        is("rows", full.count(9), 60);
    }

    private static void undoneAndDone() {
        holds(56, "all is as ahead of it");
        BlushCourt x = made();
        x.drink(0, 1);
        x.drink(0, 2);
        x.undo();
        x.drink(0, 4);
        is("drink", x.witness(0, 2), 5);
        is("acts", x.count(10), 2);
        x.undo();
        is("drink", x.witness(0, 2), 1);
        x.undo();
        is("drink", x.witness(0, 2), 0);
        is("no more", x.undo(), false);
        BlushCourt once = made();
        int said = once.moments(20);
        BlushCourt again = made();
        again.moments(20);
        again.undo();
        is("the same draws again", again.moments(20), said);
        same("the same moments again", state(again), state(once));
    }

    private static void notUndone() {
        holds(56, "but for the TAPE, fault(), THE IMAGE");
        BlushCourt x = made();
        x.drink(0, 1);
        courtFault(x, "heat ^10");
        x.image();
        feed(x, "heat 8");
        is("undo", x.undo(), true);
        is("fault", x.fault(), 5);
        is("the tape", x.end(7), false);
        is("the tape", x.end(6), true);
        is("its bytes", x.court(), 2);
        is("heat", x.count(7), 8);
        is("the image", x.back(), true);
        is("as it was kept", x.witness(0, 2), 1);
        is("heat", x.count(7), 3);
    }

    private static void forgotten() {
        holds(56, "A text, going back: none are remembered");
        BlushCourt x = made();
        x.drink(0, 1);
        court(x, "");
        is("acts behind an empty text", x.count(10), 0);
        is("undo", x.undo(), false);
        x.drink(0, 1);
        law(x, "");
        is("acts behind an empty law", x.count(10), 0);
        is("undo", x.undo(), false);
        x.drink(0, 1);
        x.image();
        is("acts behind an image", x.count(10), 1);
        x.back();
        is("acts behind going back", x.count(10), 0);
        is("undo", x.undo(), false);
        is("drink stays", x.witness(0, 2), 3);
        for (int i = 0; i < 13; i++) {
            x.drink(0, 1);
        }
        is("twelve again", x.count(10), 12);
    }

    private static void notForgotten() {
        holds(56, "A text, going back: none are remembered");
        BlushCourt x = made();
        x.drink(0, 1);
        courtFault(x, "heat ^10");
        is("a wrong text", x.count(10), 1);
        lawFault(x, "rise ^100");
        is("a wrong law", x.count(10), 1);
        is("no image", x.back(), false);
        is("not gone back", x.count(10), 1);
        x.seed(5);
        x.image();
        feed(x, 0, 0, 0);
        x.fits();
        x.wrong();
        x.trial(5, true);
        x.span(5, true);
        x.heats();
        x.pale();
        x.vinegar(0, 0);
        is("what is no act", x.count(10), 1);
        is("undo", x.undo(), true);
    }

    private static void seeds() {
        holds(55, "SEED: what it was");
        BlushCourt x = made();
        is("at first", x.seed(Integer.MIN_VALUE), 1);
        is("the least", x.seed(Integer.MAX_VALUE), Integer.MIN_VALUE);
        is("the greatest", x.seed(0), Integer.MAX_VALUE);
        is("0", x.seed(9), 0);
        is("no act", x.count(10), 0);
        x.drink(0, 1);
        x.seed(8);
        x.undo();
        is("as ahead of the act", x.seed(7), 9);
    }

    private static void image() {
        holds(57, "THE IMAGE (one) of all may be kept, and gone back to (but for the TAPE, fault() and THE IMAGE itself)");
        BlushCourt x = behind(4);
        String kept = scene(x);
        x.image();
        x.moments(9);
        x.powder(2);
        courtFault(x, "heat ^10");
        feed(x, "heat 8");
        holds(58, "One goes back to THE IMAGE: true");
        is("back", x.back(), true);
        same("all is as it was kept", scene(x), kept);
        is("fault", x.fault(), 5);
        is("the tape", x.end(7), false);
        is("the tape", x.end(6), true);
        is("the image itself stays", x.back(), true);
        x.heat(9);
        is("back again", x.back(), true);
        is("heat", x.count(7), 3);
        BlushCourt y = made();
        y.image();
        y.heat(8);
        y.image();
        y.heat(9);
        is("back", y.back(), true);
        is("one alone: the latest", y.count(7), 8);
        is("back", y.back(), true);
        is("still the latest", y.count(7), 8);
    }

    private static void imageOfAll() {
        holds(57, "THE IMAGE (one) of all may be kept");
        BlushCourt bare = new BlushCourt();
        bare.image();
        court(bare, COURT);
        law(bare, LAW);
        bare.moments(30);
        is("back to nothing", bare.back(), true);
        same("all is as of a new one", state(bare), state(new BlushCourt()));
        is("without a law", bare.count(5), NONE);
        for (int n = 1; n <= 12; n++) {
            is("texts", court(bare, ""), n);
        }
        is("back", bare.back(), true);
        is("texts again", court(bare, COURT), 1);
        is("two who have 11 each pass 50 without a law", bare.rises(0, 1), 10);
        BlushCourt x = made();
        String kept = scene(x);
        x.image();
        law(x, "fall 9;pass 3;rise 50");
        court(x, "witness skin 9 shame 9;thing weight 9 so;ask c;woman sharp 4;heat 9;talk 90;false 90;moment 900");
        x.seed(12);
        x.change(0, 3);
        x.words(0, 4);
        is("back", x.back(), true);
        same("law, texts, numbers, seed, places and words", scene(x), kept);
    }

    private static void noImage() {
        holds(58, "false, and nothing happens, if none was kept");
        BlushCourt x = behind(3);
        String was = state(x);
        is("back", x.back(), false);
        same("nothing happens", state(x), was);
        is("undo still", x.undo(), true);
        is("still none", x.back(), false);
    }
}
