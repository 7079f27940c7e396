/** Each promise of the document, by its number, with answers reckoned by hand. */
public final class BlushCourtPromises extends CourtCheck {
    /** Question 0 raises by 13, 6, 0, 0; question 1 by 0, 6, 13, 6; question 2 by 13, 12, 13, 6. */
    private static final String ROW = "witness skin 2 shame 3;witness skin 1 shame 0 drink 4 shade 60;"
            + "witness skin 4 shame 5 shade 97;witness skin 2 shame 3;"
            + "thing weight 5 touches a so;thing weight 2 touches bc so;thing weight 9 touches d;"
            + "ask a;ask bc;ask abc;woman sharp 7;woman sharp 20";
    /** One who rises by 10 or 11; by seed 1 questions 0, 1, 1 are said and moments 0 and 2 have a false blush. */
    private static final String DRAWN = "witness skin 1 shame 9;thing weight 1 touches a so;thing weight 2 touches a so;"
            + "ask a;ask b;talk 100;false 20";
    /** One who rises by the weight of what is so of it. */
    private static final String SCALE = "witness skin 1 shame 0;thing weight 1 touches a;thing weight 1 touches a;"
            + "thing weight 2 touches a;ask ab;ask a";

    public static void main(String[] args) {
        texts();
        faults();
        conditions();
        tellings();
        acts();
        looks();
        fitting();
        knowing();
        parting();
        writing();
        hiding();
        couples();
        resting();
        counting();
        trying();
        logging();
        undoing();
        imaging();
        needEachPromise();
        finish();
    }

    private static void texts() {
        holds(1, "A court without WITNESSES");
        BlushCourt x = new BlushCourt();
        int[] due = {0, 0, 0, 0, 0, -1, 0, 3, 0, 0, 0};
        for (int what = 0; what < due.length; what++) {
            is("count(" + what + ")", x.count(what), due[what]);
        }
        is("so", x.so(), 0);
        is("seed", x.seed(1), 1);
        is("fits", x.fits(), 1);
        is("couples(NONE)", x.couples(-1), 0);
        is("heats", x.heats(), 0);
        is("blind", x.blind(), 0);
        is("dark", x.dark(), 0);
        is("NONE", BlushCourt.NONE, -1);

        holds(2, "Twenty bytes come behind the TAPE, of each number the highest first: how many it has; NONE, and none come, if it would "
                + "have more than 400");
        for (int n = 20; n <= 400; n += 20) {
            is("feed", x.feed(0x68656174, 0x20352020, 0x20202020, 0x20202020, 0x20202020), n);
        }
        is("feed beyond 400", x.feed(1, 2, 3, 4, 5), -1);
        is("end(401)", x.end(401), false);
        is("end(400)", x.end(400), true);
        is("end(381)", x.end(381), true);
        is("feed to 401", x.feed(1, 2, 3, 4, 5), -1);
        is("end(380)", x.end(380), true);
        is("feed to 400", x.feed(1, 2, 3, 4, 5), 400);
        is("end(6)", x.end(6), true);
        is("court", x.court(), 1);
        is("heat by the highest byte first", x.count(7), 5);

        holds(3, "The TAPE has its first n bytes alone: true; false, and nothing happens, if it has fewer, or n is below 0");
        x.feed(0, 0, 0, 0, 0);
        is("end(-1)", x.end(-1), false);
        is("end(21)", x.end(21), false);
        is("end(20)", x.end(20), true);
        is("end(3)", x.end(3), true);
        is("end(4)", x.end(4), false);
        is("feed behind 3", x.feed(0, 0, 0, 0, 0), 23);
        is("end(0)", x.end(0), true);
        is("feed behind 0", x.feed(0, 0, 0, 0, 0), 20);

        holds(4, "Uses the TAPE up: a text of THE COURT: how many there are. IllegalArgumentException: it is wrong; "
                + "UnsupportedOperationException: there are 12");
        BlushCourt y = told("witness skin 1 shame 2");
        is("a text behind another", court(y, "witness skin 3 shame 4;thing weight 1 touches ab"), 2);
        is("both are there", y.witness(1, 0), 3);
        is("whom it touches", y.thing(0, 1), 3);
        feed(y, "heat 5;witness skin 1 shame 1;heat 10");
        fails("a wrong text", ARGUMENT, () -> y.court());
        is("nothing stays", y.count(0), 2);
        is("heat stays", y.count(7), 3);
        is("the tape is used up", y.feed(0, 0, 0, 0, 0), 20);
        for (int n = 3; n <= 12; n++) {
            is("court", court(y, ""), n);
        }
        feed(y, "heat 5");
        fails("a 13th text", UNSUPPORTED, () -> y.court());
        is("nothing changes", y.count(7), 3);
        is("texts", y.count(4), 12);
        is("the tape is used up", y.feed(0, 0, 0, 0, 0), 20);
        feed(y, "heat x");
        fails("a wrong 13th text", ARGUMENT, () -> y.court());
        is("fault", y.fault(), 5);

        holds(5, "Uses the TAPE up: THE LAW: how many LINES. IllegalArgumentException: the text is wrong");
        is("law", law(y, "rise 5;fall 3 if edge"), 2);
        is("lines", y.count(5), 2);
        is("falls", y.witness(0, 5), 10);
        feed(y, "fall 9;fall x");
        fails("a wrong law", ARGUMENT, () -> y.law());
        is("the law stays", y.witness(0, 5), 10);
        is("the tape is used up", y.feed(0, 0, 0, 0, 0), 20);
        is("in place of the one before", law(y, "fall 1"), 1);
        is("falls", y.witness(0, 5), 8);
        is("an empty law", law(y, "  "), 0);
        is("lines", y.count(5), 0);
        is("falls", y.witness(0, 5), 7);
    }

    private static void faults() {
        holds(6, "The first wrong byte of the latest text that was read; NONE without one, and ahead of any");
        BlushCourt x = new BlushCourt();
        is("ahead of any", x.fault(), -1);
        String[] courts = {"", "   ", "heat 5", " heat5 ;  heat  007 ", "heat^", "heat  ^", "heat ^x", "heat ^0005", "heat 1 ^2",
            "heat 5;^", "heat 5; ^", "^;", "heat 5;^;heat 5", "^Heat 5", "heat 5^heat 6", "^\theat 5", "heat ^-1",
            "heat 9", "heat ^10", "false 100", "false ^101", "talk 100", "talk ^101", "moment 0", "moment 999", "moment ^1000", "^moments 1",
            "witness^", "witness ^shame 1", "witness skin^", "witness skin 9 shame 9 drink 99 shade 99", "witness skin ^10 shame 1",
            "witness skin 1 shame ^10", "witness skin 1 shame 1 drink ^100", "witness skin 1 shame 1 shade ^100",
            "witness skin 1 shame 1 shade 5 ^drink 5", "witness skin 1 shame 1 ^skin 2", "witness skin 1 shame^",
            "^witnessskin 1 shame 1", "witness skin1shame1drink2shade3", "witness skin 1 shame 1 shade^",
            "thing^", "thing weight^", "thing weight ^0", "thing weight ^10", "thing weight 9 so", "thing weight 1 touches^",
            "thing weight 1 touches ^a", "witness skin 1 shame 1;thing weight 1 touches a so",
            "witness skin 1 shame 1;thing weight 1 touches ^aa", "witness skin 1 shame 1;thing weight 1 touches ^ab",
            "witness skin 1 shame 1;thing weight 1 touches ^so", "witness skin 1 shame 1;thing weight 1 so ^touches a",
            "witness skin 1 shame 1;thing weight 1 touches ^1", "ask^", "ask ^a", "thing weight 1;ask a", "thing weight 1;ask ^b",
            "thing weight 1;ask ^aa", "thing weight 1;ask a ^a", "thing weight 1;ask ^A", "thing weight 1;thing weight 2;ask ba",
            "woman^", "woman sharp ^0", "woman sharp 20", "woman sharp ^21", "^woma"};
        for (String text : courts) {
            courtFault(text);
        }
        String[] laws = {"", " ", "rise 0", "rise ^100", "rise^", "rise ^if edge", "rise 5 ^when edge", "rise 5 if^", "rise 5 if ^",
            "rise 5 if edge and ^", "rise 5 if edge or^", "rise 5 if not^", "rise 5 if ^foo", "rise 5 if heat^", "rise 5 if heat <^",
            "rise 5 if heat ^= 3", "rise 5 if heat < 3 ^< 4", "rise 5 if (heat^) < 3", "rise 5 if ((((((edge))))))",
            "rise 5 if ((((((^(edge)))))))", "rise 5 if not not not not not not edge", "rise 5 if not not not not not not ^not edge",
            "rise 5 if not (not (not (^not edge)))", "rise 5 if not (not (not edge or (edge))) and not not not not not not red",
            "rise 5 if edge^)", "rise 5 if (edge ^", "rise 5 if red ^touched", "rise 5 if heat + ^< 3", "rise 5 if heat + ^touched > 3",
            "rise 5 if ^1000 > 3", "rise 5 if 999+0>skin+shame+drink+shade+heat+weight+place+witness", "rise 5 ; fall 6 ; pass 99",
            "rise 5;^", "rise 5^,", "^tax", "rise 5if edge", "rise 5 if ^notedge", "rise 5 if edge ^xor red", "rise 5 if ^) edge"};
        for (String text : laws) {
            lawFault(text);
        }
        faultsOfTooMany();
    }

    private static void faultsOfTooMany() {
        courtFault(times(14, "heat 1"));
        courtFault(times(14, "heat 1") + "; ^heat 1");
        courtFault(times(14, "heat 1") + ";^x");
        courtFault(times(14, "heat 1") + "; ^");
        courtFault(times(5, "witness skin 1 shame 1"));
        courtFault(times(5, "witness skin 1 shame 1") + ";^witness x");
        courtFault(times(6, "thing weight 1") + ";^thing weight 1");
        courtFault(times(4, "woman sharp 1") + ";^woman sharp 1");
        courtFault("thing weight 1;" + times(8, "ask a") + ";^ask a");
        lawFault(times(12, "rise 1"));
        lawFault(times(12, "rise 1") + ";^rise 1");
        BlushCourt x = told("heat 5");
        feed(x, "heat 5 5");
        fails("a wrong text", ARGUMENT, () -> x.court());
        is("fault", x.fault(), 7);
        law(x, "rise 5");
        is("fault of a right text behind it", x.fault(), -1);
    }

    /** By how much one of three who is touched by a weight of 4 rises more, if the condition holds. */
    private static boolean holds(String condition) {
        BlushCourt x = told("witness skin 1 shame 2;witness skin 3 shame 5 drink 7 shade 50;witness skin 1 shame 1;"
                + "thing weight 4 touches b so;ask a;heat 6", "rise 40 if " + condition);
        return x.rises(0, 1) > 20;
    }

    private static void conditions() {
        holds(20, "RISES");
        String[] right = {"touched", "red", "not edge", "witness+0<2 and witness>0", "skin>2 and skin<4", "shame>4 and shame<6",
            "drink>6 and drink<8", "shade>49 and shade<51", "heat>5 and heat<7", "weight>3 and weight<5", "place>0 and place<2",
            "skin+shame+drink<16 and skin+shame+drink>14", "edge or red", "edge and edge or red", "red or edge and edge",
            "(red or edge) and red", "not (edge and red)", "not not red", "not edge and red", "0<1", "999>998", "not 1<1", "not 1>1"};
        for (String condition : right) {
            is(condition, holds(condition), true);
        }
        String[] not = {"edge", "not red", "edge and red or edge", "(red or edge) and edge", "not edge and edge", "1<1", "1>1",
            "not (red or edge)", "red and edge", "1+2<3"};
        for (String condition : not) {
            is(condition, holds(condition), false);
        }
        BlushCourt x = told(ROW);
        int[][] due = {{13, 6, 0, 0}, {0, 6, 13, 6}, {13, 12, 13, 6}};
        for (int q = 0; q < 3; q++) {
            for (int w = 0; w < 4; w++) {
                is("rises(" + q + ", " + w + ")", x.rises(q, w), due[q][w]);
            }
        }
        law(x, "rise 10 if touched;rise 1 if witness < 1;pass 80;pass 30 if edge");
        is("own and rise lines", x.rises(0, 0), 24);
        is("passes 99 at most", x.rises(0, 1), 23);
        is("rise lines ahead of drink", x.rises(1, 1), 8 + 18);
        is("passes 80", x.rises(1, 3), 18);
        law(x, "");
        is("an empty law passes nothing", x.rises(0, 1), 0);
        fails("rises(3, 0)", INDEX, () -> x.rises(3, 0));
        fails("rises(0, 4)", INDEX, () -> x.rises(0, 4));
        fails("rises(-1, 0)", INDEX, () -> x.rises(-1, 0));
    }

    private static void tellings() {
        holds(7, "Of a WITNESS what 0 SKIN, 1 SHAME, 2 DRINK, 3 SHADE, 4 PLACE, 5 what it FALLS by, 6 SHARE, 7 TOUCHED, as bits, 8 FOUND "
                + "OUT, as bits. NoSuchElementException: another what");
        BlushCourt x = told(ROW);
        int[][] due = {{2, 3, 0, 0, 0, 7, 0, 1, 5}, {1, 0, 4, 60, 1, 7, 38, 2, 7}, {4, 5, 0, 97, 2, 7, 61, 2, 6}, {2, 3, 0, 0, 3, 7, 0, 4, 0}};
        for (int w = 0; w < 4; w++) {
            for (int what = 0; what < 9; what++) {
                is("witness(" + w + ", " + what + ")", x.witness(w, what), due[w][what]);
            }
        }
        fails("witness(4, 9)", INDEX, () -> x.witness(4, 9));
        fails("witness(-1, 0)", INDEX, () -> x.witness(-1, 0));
        fails("witness(0, 9)", ELEMENT, () -> x.witness(0, 9));
        fails("witness(0, -1)", ELEMENT, () -> x.witness(0, -1));
        law(x, "fall 30 if red;fall 2 if edge;fall 50 if touched;fall 60 if weight > 0");
        is("falls at the edge", x.witness(0, 5), 9);
        is("falls red", x.witness(1, 5), 37);
        is("share without", told("witness skin 1 shame 1").witness(0, 6), 0);

        holds(8, "Of a THING what 0 WEIGHT, 1 whom it TOUCHES, as bits, 2 1 if SO, 3 LEANS, as bits, 4 KNOWN, as bits (NONE). "
                + "NoSuchElementException: another what");
        BlushCourt y = told(ROW);
        int[][] things = {{5, 1, 1, 5}, {2, 6, 1, 6}, {9, 8, 0, 6}};
        for (int t = 0; t < 3; t++) {
            for (int what = 0; what < 4; what++) {
                is("thing(" + t + ", " + what + ")", y.thing(t, what), things[t][what]);
            }
        }
        fails("thing(3, 9)", INDEX, () -> y.thing(3, 9));
        fails("thing(0, 5)", ELEMENT, () -> y.thing(0, 5));
        fails("thing(0, -1)", ELEMENT, () -> y.thing(0, -1));

        holds(9, "THINGS that a QUESTION says, as bits");
        is("asks", y.asks(2), 7);
        fails("asks(3)", INDEX, () -> y.asks(3));
        holds(10, "SHARP of a woman");
        is("sharp", y.sharp(1), 20);
        fails("sharp(2)", INDEX, () -> y.sharp(2));
        holds(11, "Who stands in a PLACE");
        y.change(0, 2);
        is("stands(0)", y.stands(0), 2);
        is("stands(2)", y.stands(2), 0);
        fails("stands(4)", INDEX, () -> y.stands(4));
        fails("stands(-1)", INDEX, () -> y.stands(-1));
    }

    private static void acts() {
        holds(12, "So many MOMENTS more (1 to 60): how many QUESTIONS were said in these. IllegalArgumentException: they are none");
        BlushCourt x = told(DRAWN);
        is("moments(3)", x.moments(3), 3);
        is("shade", x.witness(0, 3), 58);
        is("moment", x.count(6), 3);
        fails("moments(0)", ARGUMENT, () -> x.moments(0));
        fails("moments(61)", ARGUMENT, () -> x.moments(61));
        is("nothing said", told("witness skin 1 shame 1 shade 99").moments(60), 0);
        BlushCourt unasked = told("witness skin 1 shame 9;talk 100;false 20");
        is("without questions", unasked.moments(3), 0);
        is("one draw all the same", unasked.count(9), 1);
        is("the moment of it", unasked.log(0, 0), 1);
        BlushCourt late = told("moment 999");
        for (int i = 0; i < 150; i++) {
            late.moments(60);
        }
        is("moment", late.count(6), 9999);
        late.moments(60);
        is("9999 at most", late.count(6), 9999);

        holds(13, "A QUESTION is said: who RISES above 0, as bits");
        BlushCourt y = told(ROW);
        is("say(0)", y.say(0), 3);
        is("shade", y.witness(0, 3), 13);
        is("shade next to it", y.witness(1, 3), 66);
        is("say(1)", y.say(1), 14);
        is("99 at most", y.witness(2, 3), 99);
        fails("say(3)", INDEX, () -> y.say(3));

        holds(14, "Two change PLACES: that of the first one then. IllegalArgumentException: both are one");
        is("change(0, 3)", y.change(0, 3), 3);
        is("place of the other", y.witness(3, 4), 0);
        is("change(1, 0)", y.change(1, 0), 3);
        fails("change(0, 4)", INDEX, () -> y.change(0, 4));
        fails("change(4, 4)", INDEX, () -> y.change(4, 4));
        fails("change(1, 1)", ARGUMENT, () -> y.change(1, 1));

        holds(15, "One drinks: DRINK then. IllegalArgumentException: n is none (1 to 99)");
        is("drink(1, 90)", y.drink(1, 90), 94);
        is("drink(1, 6)", y.drink(1, 6), 99);
        fails("drink(4, 0)", INDEX, () -> y.drink(4, 0));
        fails("drink(0, 0)", ARGUMENT, () -> y.drink(0, 0));
        fails("drink(0, 100)", ARGUMENT, () -> y.drink(0, 100));
        tellingActs(y);
    }

    private static void tellingActs(BlushCourt y) {
        holds(16, "HEAT is told: what it was. IllegalArgumentException: n is none (0 to 9)");
        is("heat(9)", y.heat(9), 3);
        is("heat(0)", y.heat(0), 9);
        is("falls by 10", y.witness(0, 5), 10);
        fails("heat(-1)", ARGUMENT, () -> y.heat(-1));
        fails("heat(10)", ARGUMENT, () -> y.heat(10));

        holds(17, "A THING is SO, or not: whether that changed");
        is("tell(2, false)", y.tell(2, false), false);
        is("tell(2, true)", y.tell(2, true), true);
        is("so", y.so(), 7);
        is("tell(0, false)", y.tell(0, false), true);
        is("so", y.so(), 6);
        fails("tell(3, true)", INDEX, () -> y.tell(3, true));

        holds(18, "A QUESTION says other THINGS (others than there are count for nothing): which it said, as bits. "
                + "IllegalArgumentException: there are none");
        is("words(0, 6)", y.words(0, 6), 1);
        is("words(0, -1)", y.words(0, -1), 6);
        is("others count for nothing", y.asks(0), 7);
        fails("words(3, 0)", INDEX, () -> y.words(3, 0));
        fails("words(0, 8)", ARGUMENT, () -> y.words(0, 8));
        fails("words(0, 0)", ARGUMENT, () -> y.words(0, 0));
        is("nothing changed", y.asks(0), 7);

        holds(19, "Powdered: SHADE that it was");
        is("powder", y.powder(2), 99);
        is("shade", y.witness(2, 3), 0);
        fails("powder(4)", INDEX, () -> y.powder(4));
    }

    private static void looks() {
        BlushCourt x = told(ROW);
        holds(21, "SEEN, as bits");
        is("seen(0, 0)", x.seen(0, 0), 3);
        is("seen(0, 1)", x.seen(0, 1), 0);
        is("seen(1, 0)", x.seen(1, 0), 6);
        is("seen(1, 1)", x.seen(1, 1), 0);
        fails("seen(3, 0)", INDEX, () -> x.seen(3, 0));
        fails("seen(0, 2)", INDEX, () -> x.seen(0, 2));
        holds(22, "GIVES AWAY, as bits");
        is("gives(0)", x.gives(0), 2);
        is("gives(1)", x.gives(1), 8);
        fails("gives(3)", INDEX, () -> x.gives(3));
        holds(23, "WRITES");
        is("writes(0, 1)", x.writes(0, 1), 56);
        is("writes(1, 2)", x.writes(1, 2), 80);
        fails("writes(2, 0)", INDEX, () -> x.writes(2, 0));
        fails("writes(0, 4)", INDEX, () -> x.writes(0, 4));
        holds(24, "PALE (0, if so now); NONE");
        is("pale", x.pale(), 14);
        is("pale now", told("witness skin 1 shame 1").pale(), 0);
        is("pale without", new BlushCourt().pale(), 0);
        is("pale at 60", told("witness skin 1 shame 1 shade 60;heat 9").pale(), 60);
        is("not pale", told("witness skin 1 shame 1 shade 61;heat 9").pale(), -1);
        is("pale by the law", told("witness skin 1 shame 1 shade 70", "fall 13 if red").pale(), 7);
        holds(25, "REDDEST; NONE");
        is("reddest", x.reddest(), 2);
        is("reddest of none", new BlushCourt().reddest(), -1);
        is("reddest of like", told("witness skin 1 shame 1;witness skin 1 shame 1").reddest(), 0);
        holds(26, "PALEST; NONE");
        is("palest", x.palest(), 0);
        is("palest of none", new BlushCourt().palest(), -1);
        is("palest", told("witness skin 1 shame 1 shade 5;witness skin 1 shame 1 shade 4").palest(), 1);
    }

    private static void fitting() {
        int[][] told = {{}, {0, 0, 1}, {0, 0, 2}, {0, 0, 0}, {0, 0, 5}, {0, 0, 1, 1, 0, 1}, {0, 0, 1, 0, 0, 2}};
        int[][] due = {{8, 0, 0, 0}, {4, 0, 0, 1}, {2, 3, 0, 0}, {2, 0, 3, 0}, {0, 0, 7, -1}, {2, 1, 2, 0}, {0, 0, 7, -1}};
        BlushCourt x = told(SCALE);
        for (int i = 0; i < told.length; i++) {
            holds(27, "Uses the TAPE up: FITS (of each three bytes: the QUESTION, the WITNESS, by how much; at most 45). "
                    + "IllegalArgumentException: the TAPE is not that (none may be told)");
            feed(x, told[i]);
            is("fits of " + i, x.fits(), due[i][0]);
            holds(28, "Uses the TAPE up: SURE (the TAPE likewise), as bits. IllegalArgumentException: the TAPE is not that");
            feed(x, told[i]);
            is("sure of " + i, x.sure(), due[i][1]);
            holds(29, "Uses the TAPE up: NEVER (the TAPE likewise), as bits. IllegalArgumentException: the TAPE is not that");
            feed(x, told[i]);
            is("never of " + i, x.never(), due[i][2]);
            holds(30, "Uses the TAPE up: NEXT (the TAPE likewise); NONE. IllegalArgumentException: the TAPE is not that");
            feed(x, told[i]);
            is("next of " + i, x.next(), due[i][3]);
        }
        int[][] bad = {{0}, {0, 0}, {0, 0, 1, 0}, {2, 0, 1}, {0, 1, 1}, {255, 0, 0}, rows(16, 0, 0, 1), rows(45, 0, 0, 1),
            rows(133, 0, 0, 1)};
        for (int[] bytes : bad) {
            about(27);
            feed(x, bytes);
            fails("fits", ARGUMENT, () -> x.fits());
            is("the tape is used up", x.feed(0, 0, 0, 0, 0), 20);
            about(28);
            feed(x, bytes);
            fails("sure", ARGUMENT, () -> x.sure());
            about(29);
            feed(x, bytes);
            fails("never", ARGUMENT, () -> x.never());
            about(30);
            feed(x, bytes);
            fails("next", ARGUMENT, () -> x.next());
        }
        about(27);
        feed(x, rows(15, 0, 0, 1));
        is("fits of 45 bytes", x.fits(), 4);
        about(28);
        feed(x, rows(15, 0, 0, 2));
        is("sure of 45 bytes", x.sure(), 3);
        about(29);
        feed(x, rows(15, 0, 0, 0));
        is("never of 45 bytes", x.never(), 3);
        about(30);
        feed(x, rows(15, 0, 0, 1));
        is("next of 45 bytes", x.next(), 1);
        about(27);
        is("the tape is used up", x.feed(0, 0, 0, 0, 0), 20);
        x.end(0);
        BlushCourt six = told("witness skin 1 shame 0;" + times(6, "thing weight 1 touches a") + ";ask abcdef");
        is("fits of six things", six.fits(), 64);
        feed(six, 0, 0, 3);
        is("three of six", six.fits(), 20);
        about(30);
        BlushCourt mute = told("thing weight 1");
        is("next without questions", mute.next(), -1);
    }

    private static void knowing() {
        BlushCourt x = told(SCALE);
        about(8);
        is("known by one", x.thing(0, 4), 2);
        is("known by two", x.thing(1, 4), 3);
        is("never known", x.thing(2, 4), -1);
        court(x, "ask b;ask c;ask b");
        is("the fewest, the least as bits", x.thing(1, 4), 4);
        is("known", x.thing(2, 4), 8);
        is("without questions", told("thing weight 1").thing(0, 4), -1);
        holds(31, "DARK, as bits");
        is("dark", told(SCALE).dark(), 4);
        is("none dark", x.dark(), 0);
        is("dark without questions", told("thing weight 1;thing weight 2").dark(), 3);
        is("dark touches nobody", told("thing weight 1;ask a").dark(), 1);
        holds(32, "TELLS");
        is("tells(0)", x.tells(0), 3);
        is("tells(1)", x.tells(1), 2);
        BlushCourt y = told("witness skin 1 shame 0 drink 3;thing weight 1 touches a;thing weight 4 touches a;ask ab");
        is("tells by what rises alone", y.tells(0), 3);
        fails("tells(5)", INDEX, () -> x.tells(5));
    }

    private static void parting() {
        BlushCourt x = told(times(5, "witness skin 1 shame 1") + ";thing weight 1 touches ace so;thing weight 1 touches b;ask ab;ask b");
        holds(33, "SHARED");
        is("shared", x.shared(0), 4);
        is("shared of nobody touched", x.shared(1), 0);
        fails("shared(2)", INDEX, () -> x.shared(2));
        holds(34, "APART");
        is("apart", x.apart(0), 3);
        is("apart of nobody touched", x.apart(1), 0);
        fails("apart(2)", INDEX, () -> x.apart(2));
        holds(35, "ROW");
        int[] due = {0, 2, 4, 1, 3};
        for (int place = 0; place < 5; place++) {
            is("row(0, " + place + ")", x.row(0, place), due[place]);
            is("row(1, " + place + ")", x.row(1, place), place);
        }
        fails("row(2, 0)", INDEX, () -> x.row(2, 0));
        fails("row(0, 5)", INDEX, () -> x.row(0, 5));
        fails("row(0, -1)", INDEX, () -> x.row(0, -1));
        x.tell(0, false);
        x.tell(1, true);
        is("to the edge that is nearer", x.apart(0), 1);
        is("who was first", x.row(0, 0), 1);
        x.change(0, 1);
        is("there now", x.apart(0), 0);
        is("shared", x.shared(0), 1);
    }

    private static void writing() {
        BlushCourt x = told("witness skin 1 shame 1;witness skin 1 shame 1;woman sharp 10;woman sharp 7;woman sharp 3;woman sharp 20");
        int[][] told = {{}, {0, 0, 10, 1, 0, 14}, {0, 0, 10, 1, 0, 14, 2, 0, 21}, {0, 0, 10, 1, 0, 21}, {1, 0, 8}, {0, 0, 10, 0, 0, 20},
            {3, 0, 80}, {1, 0, 98}, {0, 1, 10, 1, 1, 21}, {0, 0, 20, 0, 0, 20}, {0, 0, 10, 1, 0, 21, 2, 1, 4}};
        int[][] due = {{0, 100}, {0, 6}, {4, 0}, {1, 0}, {2, 0}, {1, 0}, {0, 20}, {0, 2}, {1, 100}, {0, 10}, {5, 0}};
        for (int i = 0; i < told.length; i++) {
            holds(36, "Uses the TAPE up: WRONG (of each three bytes: the woman, the WITNESS, the number; at most 45), as bits. "
                    + "IllegalArgumentException: the TAPE is not that (none may be told)");
            feed(x, told[i]);
            is("wrong of " + i, x.wrong(), due[i][0]);
            holds(37, "Uses the TAPE up: SHADES (the TAPE likewise). IllegalArgumentException: the TAPE is not that");
            feed(x, told[i]);
            is("shades of " + i, x.shades(0), due[i][1]);
        }
        int[][] bad = {{0}, {0, 0, 1, 0, 0}, {4, 0, 1}, {0, 2, 1}, {0, 0, 100}, rows(16, 0, 0, 10), rows(45, 0, 0, 10), rows(133, 0, 0, 10)};
        for (int[] bytes : bad) {
            about(36);
            feed(x, bytes);
            fails("wrong", ARGUMENT, () -> x.wrong());
            is("the tape is used up", x.feed(0, 0, 0, 0, 0), 20);
            about(37);
            feed(x, bytes);
            fails("shades", ARGUMENT, () -> x.shades(0));
            is("the tape is used up", x.feed(0, 0, 0, 0, 0), 20);
            feed(x, bytes);
            fails("shades(2)", INDEX, () -> x.shades(2));
            is("the tape is used up", x.feed(0, 0, 0, 0, 0), 20);
        }
        about(36);
        feed(x, rows(15, 0, 0, 10));
        is("wrong of 45 bytes", x.wrong(), 0);
        about(37);
        feed(x, rows(15, 0, 0, 10));
        is("shades of 45 bytes", x.shades(0), 10);
    }

    private static void hiding() {
        BlushCourt x = told(ROW);
        holds(38, "VINEGAR; NONE");
        is("vinegar(0, 0)", x.vinegar(0, 0), 7);
        is("vinegar(1, 0)", x.vinegar(1, 0), -1);
        is("vinegar(3, 0)", x.vinegar(3, 0), 0);
        is("vinegar(2, 2)", x.vinegar(2, 2), 13);
        x.drink(0, 20);
        is("in place of its own", x.vinegar(0, 0), 7);
        is("drink stays", x.witness(0, 2), 20);
        fails("vinegar(4, 0)", INDEX, () -> x.vinegar(4, 0));
        fails("vinegar(0, 3)", INDEX, () -> x.vinegar(0, 3));
        is("without women", told("witness skin 9 shame 9;thing weight 9 touches a so;ask a").vinegar(0, 0), 0);
        law(x, "rise 99 if drink > 2 and drink < 20");
        is("by the law", x.vinegar(0, 0), 20);
        BlushCourt much = told("witness skin 9 shame 9;thing weight 9 touches a so;ask a;woman sharp 1", "rise 9");
        is("the most vinegar", much.vinegar(0, 0), 99);
        law(much, "rise 10");
        is("more than there is", much.vinegar(0, 0), -1);
        holds(39, "BETRAYS. IllegalArgumentException: both are one");
        BlushCourt y = told(ROW);
        is("betrays(0, 1)", y.betrays(0, 1), true);
        is("betrays(1, 0)", y.betrays(1, 0), false);
        is("betrays(2, 3)", y.betrays(2, 3), true);
        is("betrays(1, 3)", y.betrays(1, 3), true);
        is("betrays(0, 2)", y.betrays(0, 2), false);
        fails("betrays(4, 4)", INDEX, () -> y.betrays(4, 4));
        fails("betrays(0, -1)", INDEX, () -> y.betrays(0, -1));
        fails("betrays(2, 2)", ARGUMENT, () -> y.betrays(2, 2));
        holds(40, "HEATS");
        BlushCourt z = told("witness skin 1 shame 1 shade 12;witness skin 1 shame 1 shade 45;witness skin 1 shame 1");
        is("heats of like", z.heats(), 0);
        law(z, "fall 50 if heat > 4");
        is("heats by the law", z.heats(), 5);
        law(z, "fall 8 if heat > 5");
        is("heats of some", z.heats(), 6);
        law(z, "fall 50 if heat > 8");
        is("the greatest heat", z.heats(), 9);
        law(z, "fall 50 if heat > 9");
        is("no greater heat", z.heats(), 0);
        is("heat stays", z.count(7), 3);
    }

    private static void couples() {
        holds(41, "COUPLES: how many (woman NONE), or with whom one is; NONE");
        String witnesses = "witness skin 1 shame 1 shade 6;witness skin 1 shame 1 shade 10;witness skin 1 shame 1 shade 15;";
        int[][] women = {{2, 2, 3, 5}, {2, 2, 5}, {2, 2, 2, 2}, {2}, {2, 3, 5}};
        int[][] due = {{4, 2, 3, 0, 1}, {2, -1, 2, 1}, {0, -1, -1, -1, -1}, {0, -1}, {2, -1, 2, 1}};
        for (int i = 0; i < women.length; i++) {
            StringBuilder text = new StringBuilder(witnesses).append("heat 3");
            for (int sharp : women[i]) {
                text.append(";woman sharp ").append(sharp);
            }
            BlushCourt x = told(text.toString());
            for (int woman = -1; woman < women[i].length; woman++) {
                is("couples(" + woman + ") of " + i, x.couples(woman), due[i][woman + 1]);
            }
            fails("couples of none", INDEX, () -> x.couples(4));
            fails("couples(-2)", INDEX, () -> x.couples(-2));
        }
        holds(42, "BETWEEN, as bits. IllegalArgumentException: both are one");
        BlushCourt y = told(ROW);
        is("between(0, 3)", y.between(0, 3), 6);
        is("between(3, 1)", y.between(3, 1), 4);
        is("between(1, 2)", y.between(1, 2), 0);
        y.change(0, 1);
        is("between(1, 2)", y.between(1, 2), 1);
        fails("between(0, 4)", INDEX, () -> y.between(0, 4));
        fails("between(0, 0)", ARGUMENT, () -> y.between(0, 0));
        holds(43, "ALONE, as bits");
        is("alone", y.alone(), 1);
        y.words(1, 4);
        is("alone", y.alone(), 5);
        is("alone of none", new BlushCourt().alone(), 0);
    }

    private static int rest(int skin, int shame, int weight) {
        return told("witness skin " + skin + " shame " + shame + ";thing weight " + weight + " touches a so;ask a").rests(0, 0);
    }

    private static void resting() {
        holds(44, "RESTS, as bits");
        is("both as good", rest(5, 2, 2), 5);
        is("both as good, nothing for the court", rest(9, 2, 1), 1);
        is("keeping is better", rest(3, 4, 2), 4);
        is("keeping is better, rounded down", rest(5, 4, 2), 4);
        is("telling is better", rest(9, 1, 9), 1);
        is("neither", rest(1, 9, 1), 0);
        BlushCourt x = told("witness skin 1 shame 0;witness skin 1 shame 5;thing weight 3 touches ab;ask a");
        is("what is not so does not touch", x.rests(1, 0), 0);
        is("nothing to lose", x.rests(0, 0), 1);
        fails("rests(2, 0)", INDEX, () -> x.rests(2, 0));
        fails("rests(0, 1)", INDEX, () -> x.rests(0, 1));
        holds(45, "ODDS. IllegalArgumentException: N or K are none");
        BlushCourt y = told("false 30");
        int[][] due = {{0, 0, 10000}, {2, 1, 5100}, {3, 2, 2160}, {5, 5, 24}, {2, 3, 0}, {5, 0, 10000}, {0, 1, 0}, {1, 1, 3000}};
        for (int[] d : due) {
            is("odds(" + d[0] + ", " + d[1] + ")", y.odds(d[0], d[1]), d[2]);
        }
        is("odds by 0", new BlushCourt().odds(3, 1), 0);
        is("odds by 100", told("false 100").odds(5, 5), 10000);
        fails("odds(-1, 0)", ARGUMENT, () -> y.odds(-1, 0));
        fails("odds(6, 0)", ARGUMENT, () -> y.odds(6, 0));
        fails("odds(0, -1)", ARGUMENT, () -> y.odds(0, -1));
        fails("odds(0, 6)", ARGUMENT, () -> y.odds(0, 6));
    }

    private static void counting() {
        holds(46, "WEIGHTIEST; NONE");
        BlushCourt x = told(ROW);
        is("weightiest", x.weightiest(), 2);
        is("weightiest of like", told("thing weight 3;thing weight 3").weightiest(), 0);
        is("weightiest of none", new BlushCourt().weightiest(), -1);
        holds(47, "TWINS");
        is("twins", x.twins(), 1);
        is("triplets", told("witness skin 1 shame 2;witness skin 1 shame 2 shade 9;witness skin 1 shame 2 drink 4").twins(), 3);
        is("no twins", told("witness skin 1 shame 2;witness skin 2 shame 1;witness skin 1 shame 1").twins(), 0);
        holds(48, "BLIND, as bits");
        is("blind", x.blind(), 2);
        is("all blind", told("woman sharp 1;woman sharp 2").blind(), 3);
        holds(49, "SO ones, as bits");
        is("so", x.so(), 3);
        holds(59, "0 WITNESSES, 1 THINGS, 2 QUESTIONS, 3 WOMEN, 4 texts of THE COURT, 5 LINES of THE LAW (NONE without one), 6 MOMENT, 7 "
                + "HEAT, 8 SHADES of all together, 9 rows of THE LOG, 10 acts that can be UNDONE. NONE for another what");
        BlushCourt y = told(ROW, "rise 1;rise 2");
        y.say(1);
        y.moments(1);
        int[] due = {4, 3, 3, 2, 1, 2, 1, 3, 61 - 7 + 99 - 7, 2, 2, -1};
        is("count(-1)", y.count(-1), -1);
        for (int what = 0; what < due.length; what++) {
            is("count(" + what + ")", y.count(what), due[what]);
        }
    }

    private static void trying() {
        holds(50, "AHEAD of a WITNESS by N MOMENTS: SHADE. IllegalArgumentException: N is none (0 to 60)");
        BlushCourt x = told(ROW, "fall 20 if red");
        int[] due = {97, 70, 43, 36, 29};
        for (int n = 0; n < due.length; n++) {
            is("ahead(2, " + n + ")", x.ahead(2, n), due[n]);
        }
        is("ahead(2, 60)", x.ahead(2, 60), 0);
        fails("ahead(4, 61)", INDEX, () -> x.ahead(4, 61));
        fails("ahead(0, 61)", ARGUMENT, () -> x.ahead(0, 61));
        fails("ahead(0, -1)", ARGUMENT, () -> x.ahead(0, -1));
        holds(51, "TRIAL: who is red (all false), or SHADES of all. IllegalArgumentException: N is none");
        BlushCourt y = told(DRAWN);
        is("trial(3, true)", y.trial(3, true), 58);
        is("trial(3, false)", y.trial(3, false), 1);
        is("trial(2, false)", y.trial(2, false), 0);
        is("trial(0, true)", y.trial(0, true), 0);
        BlushCourt red = told("witness skin 1 shame 1 shade 49;witness skin 1 shame 1 shade 50;witness skin 1 shame 1 shade 51");
        is("red from 50 on", red.trial(0, false), 6);
        is("nothing stays", y.count(6) + y.count(8) + y.count(9) + y.count(10), 0);
        is("nor the seed", y.seed(1), 1);
        fails("trial(-1, true)", ARGUMENT, () -> y.trial(-1, true));
        fails("trial(61, true)", ARGUMENT, () -> y.trial(61, true));
        holds(52, "SPAN: the least (most false), or the greatest. IllegalArgumentException: N is none");
        is("span of falling", x.span(2, true), 43);
        is("span of falling", x.span(2, false), 0);
        is("span now", x.span(0, true), 97);
        BlushCourt z = told("witness skin 1 shame 1 shade 30;false 50");
        boolean some = false;
        boolean all = true;
        for (int seed = 1; seed <= 6; seed++) {
            some |= drawn(seed, 2) % 100 < 50;
            all &= drawn(seed, 2) % 100 < 50;
        }
        z.seed(99);
        is("span by draws", z.span(1, true), some ? 43 : 23);
        is("span by draws", z.span(1, false), all ? 43 : 23);
        is("nor the seed", z.seed(1), 99);
        is("span without", new BlushCourt().span(5, false), 0);
        fails("span(-1, true)", ARGUMENT, () -> z.span(-1, true));
        fails("span(61, true)", ARGUMENT, () -> new BlushCourt().span(61, true));
    }

    private static void logging() {
        holds(54, "THE LOG so many ago (0 the latest) what 0 MOMENT, 1 the WITNESS, 2 0 to 2, 3 the QUESTION (NONE), 4 by how much; - 2 "
                + "without. NoSuchElementException: another what");
        BlushCourt x = told(DRAWN);
        is("log of none", x.log(0, 0), -2);
        x.moments(3);
        int[][] due = {{2, 0, 2, -1, 20}, {2, 0, 1, 1, 11}, {1, 0, 1, 1, 11}, {0, 0, 2, -1, 20}, {0, 0, 1, 0, 10}};
        for (int ago = 0; ago < due.length; ago++) {
            for (int what = 0; what < 5; what++) {
                is("log(" + ago + ", " + what + ")", x.log(ago, what), due[ago][what]);
            }
        }
        is("log(5, 0)", x.log(5, 0), -2);
        is("log(-1, 0)", x.log(-1, 0), -2);
        fails("log(0, 5)", ELEMENT, () -> x.log(0, 5));
        fails("log(99, -1)", ELEMENT, () -> x.log(99, -1));
        BlushCourt y = told(ROW);
        y.say(2);
        int[] by = {6, 13, 12, 13};
        for (int ago = 0; ago < 4; ago++) {
            is("the greatest number is the latest", y.log(ago, 1), 3 - ago);
            is("by how much, not cut", y.log(ago, 4), by[ago]);
            is("by hand", y.log(ago, 2), 0);
            is("the question", y.log(ago, 3), 2);
        }
        holds(53, "LED: how many rows (moment false), or the MOMENT; NONE");
        is("led(0, false)", y.led(0, false), 1);
        is("led of none", told("witness skin 1 shame 1").led(0, true), -1);
        is("led(0, true)", x.led(0, true), 2);
        is("led(0, false)", x.led(0, false), 5);
        fails("led(1, true)", INDEX, () -> x.led(1, true));
        y.moments(5);
        for (int i = 0; i < 30; i++) {
            y.say(0);
        }
        is("60 rows at most", y.count(9), 60);
        is("rows of one who is led out", y.led(3, false), 0);
        is("the oldest", y.log(59, 1), 0);
        is("its moment", y.log(59, 0), 5);
        is("one more", y.log(60, 1), -2);
        holds(55, "SEED: what it was");
        BlushCourt z = new BlushCourt();
        is("seed at first", z.seed(7), 1);
        is("seed", z.seed(1), 7);
        z.moments(1);
        is("seed behind one draw", z.seed(0), 1103527590);
    }

    private static void undoing() {
        holds(56, "UNDONE: whether there was one");
        BlushCourt x = told(ROW);
        is("undo of nothing", x.undo(), false);
        for (int n = 1; n <= 15; n++) {
            x.drink(0, 1);
        }
        is("12 are remembered", x.count(10), 12);
        for (int n = 0; n < 12; n++) {
            is("undo", x.undo(), true);
        }
        is("undo of a 13th", x.undo(), false);
        is("drink", x.witness(0, 2), 3);
        undoingTexts(x);
    }

    private static void undoingTexts(BlushCourt x) {
        x.drink(0, 1);
        x.seed(123);
        x.undo();
        is("the seed, too", x.seed(1), 1);
        x.drink(0, 1);
        feed(x, "heat x");
        fails("a wrong text", ARGUMENT, () -> x.court());
        is("fault", x.fault(), 5);
        x.feed(0, 0, 0, 0, 0);
        fails("an act that throws", ARGUMENT, () -> x.drink(0, 0));
        is("are remembered", x.count(10), 1);
        is("undo", x.undo(), true);
        is("but for fault", x.fault(), 5);
        is("but for the tape", x.end(20), true);
        x.drink(0, 1);
        law(x, "fall 1");
        is("a law: none are remembered", x.undo(), false);
        x.drink(0, 1);
        court(x, "");
        is("a text: none are remembered", x.undo(), false);
        x.image();
        x.drink(0, 1);
        is("an image: still remembered", x.count(10), 1);
        x.back();
        is("going back: none are remembered", x.undo(), false);
    }

    private static void imaging() {
        holds(58, "One goes back to THE IMAGE: true; false, and nothing happens, if none was kept");
        BlushCourt x = told(ROW, "fall 3");
        is("back without an image", x.back(), false);
        x.say(0);
        x.seed(55);
        holds(57, "THE IMAGE is kept");
        x.image();
        String seen = scene(x);
        x.moments(9);
        x.tell(0, false);
        law(x, "fall 9;pass 3");
        court(x, "witness skin 9 shame 9;thing weight 9;ask d;woman sharp 4;heat 9;talk 90;false 90");
        feed(x, "heat x");
        fails("a wrong text", ARGUMENT, () -> x.court());
        x.feed(0, 0, 0, 0, 0);
        about(58);
        is("back", x.back(), true);
        same("all is as it was", scene(x), seen);
        is("but for fault", x.fault(), 5);
        is("but for the tape", x.end(20), true);
        is("the seed, too", x.seed(1), 55);
        x.say(0);
        is("back again", x.back(), true);
        same("all is as it was", scene(x), seen);
        about(57);
        BlushCourt y = told(ROW);
        y.image();
        y.say(0);
        y.image();
        String later = scene(y);
        y.heat(9);
        y.back();
        same("one image alone", scene(y), later);
    }
}
