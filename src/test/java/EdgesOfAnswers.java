/** The edges of what a court answers: none, several alike, the least and the greatest, rounding, and told rows. */
public final class EdgesOfAnswers extends CourtCheck {
    private static final String ONE = "witness skin 1 shame 0";
    /** Four who rise by 9, each by a question of its own, and by 4 each by one who stands next. */
    private static final String FOUR = times(4, "witness skin 0 shame 9") + ";thing weight 1 touches a so;thing weight 1 touches b so;"
            + "thing weight 1 touches c so;thing weight 1 touches d;ask a;ask b;ask c;ask d";

    public static void main(String[] args) {
        rises();
        seen();
        gives();
        pale();
        reddest();
        share();
        fits();
        next();
        tapeOfRows();
        known();
        dark();
        tells();
        shared();
        apart();
        wrong();
        shades();
        vinegar();
        foundOut();
        betrays();
        heats();
        couples();
        sets();
        rests();
        odds();
        weightiest();
        twins();
        blind();
        trial();
        span();
        counts();
        finish();
    }

    private static void rises() {
        holds(20, "RISES of a QUESTION and a WITNESS: by how much it would rise (not cut at 99)");
        BlushCourt x = told("witness skin 9 shame 9 shade 99;witness skin 9 shame 8;thing weight 9 touches ab so;thing weight 1 touches b;ask a;ask b",
                "rise 9");
        is("99", x.rises(0, 0), 99);
        law(x, "rise 10");
        is("100", x.rises(0, 0), 100);
        is("nothing said is so", x.rises(1, 1), 0);
        is("shade is as it was", x.witness(0, 3), 99);
    }

    private static void seen() {
        holds(21, "SEEN of a QUESTION and a woman: WITNESSES of whom she READS more behind it than ahead of it, as bits");
        int[][] due = {{10, 0, 9, 0}, {9, 0, 9, 1}, {10, 1, 9, 1}, {11, 1, 9, 0}, {11, 2, 9, 1}, {1, 98, 9, 1}, {1, 99, 9, 0}, {2, 97, 9, 1},
            {2, 98, 9, 0}, {20, 70, 9, 0}, {20, 71, 9, 1}, {20, 79, 1, 1}, {20, 80, 99, 0}, {10, 89, 1, 1}, {10, 90, 99, 0}};
        for (int[] d : due) {
            BlushCourt x = told("witness skin 0 shame 0 shade " + d[1] + ";thing weight 1 touches a so;ask a;woman sharp " + d[0], "rise " + d[2]);
            is("sharp " + d[0] + " of " + d[1] + " and " + d[2], x.seen(0, 0), d[3]);
        }
        BlushCourt y = told("witness skin 0 shame 9 shade 1;witness skin 0 shame 9 shade 99;witness skin 0 shame 9 shade 0;"
                + "thing weight 1 touches abc so;ask a;woman sharp 10;woman sharp 1;woman sharp 20", "");
        is("9 more than 1", y.seen(0, 0), 1);
        is("all who rise and are not cut", y.seen(0, 1), 5);
        is("nobody", y.seen(0, 2), 0);
    }

    private static void gives() {
        holds(22, "GIVES AWAY of a QUESTION: WITNESSES who RISE by it that are not touched by it, as bits");
        BlushCourt x = told("witness skin 0 shame 9;witness skin 0 shame 9 drink 99;witness skin 0 shame 1;witness skin 0 shame 1;"
                + "thing weight 1 touches a so;thing weight 1 touches ab so;thing weight 1 touches d so;thing weight 1 touches b so;"
                + "ask a;ask b;ask c;ask d");
        is("next to one", x.gives(0), 2);
        is("one who is touched, though it rises by another alone", x.gives(1), 0);
        is("next to one who passes 0", x.gives(2), 0);
        is("next to one who has 0", x.gives(3), 0);
        is("by 1", told("witness skin 0 shame 2;witness skin 0 shame 0;thing weight 1 touches a so;ask a").gives(0), 2);
        is("by 0", told("witness skin 0 shame 1;witness skin 0 shame 0;thing weight 1 touches a so;ask a").gives(0), 0);
        is("alone", told(ONE + ";thing weight 1 touches a so;ask a").gives(0), 0);
        is("all but the one between", told(times(3, "witness skin 0 shame 9") + ";thing weight 1 touches b so;ask a").gives(0), 5);
    }

    private static void pale() {
        holds(24, "PALE: the first N (0 to 60) AHEAD by which all SHADES are 0; none");
        int[][] due = {{0, 0}, {1, 1}, {59, 59}, {60, 60}, {61, NONE}, {99, NONE}};
        for (int[] d : due) {
            is("shade " + d[0], told(ONE + ";witness skin 1 shame 0 shade " + d[0] + ";heat 9").pale(), d[1]);
        }
        is("without witnesses", new BlushCourt().pale(), 0);
        BlushCourt x = told(ONE + " shade 14;witness skin 1 shame 0 shade 8;witness skin 1 shame 0 shade 15");
        holds(24, "PALE (0, if so now); NONE");
        is("all of them", x.pale(), 3);
        x.powder(2);
        is("from now", x.pale(), 2);
        x.heat(8);
        is("by the heat as it is now", x.pale(), 7);
    }

    private static void reddest() {
        holds(25, "REDDEST: the WITNESS of the most SHADE (of several the least; none)");
        is("of several the least", told(ONE + " shade 4;" + times(2, ONE + " shade 5") + ";" + ONE).reddest(), 1);
        is("all 0", told(times(3, ONE)).reddest(), 0);
        is("the last one", told(ONE + ";" + ONE + " shade 1").reddest(), 1);
        is("none", new BlushCourt().reddest(), NONE);
        holds(26, "PALEST likewise of the least");
        is("of several the least", told(ONE + " shade 4;" + times(2, ONE + " shade 3") + ";" + ONE + " shade 9").palest(), 1);
        is("all 99", told(times(3, ONE + " shade 99")).palest(), 0);
        is("the last one", told(ONE + " shade 1;" + ONE).palest(), 1);
        is("none", new BlushCourt().palest(), NONE);
    }

    private static void share() {
        holds(7, "SHARE of a WITNESS of SHADES of all, in hundredths, rounded down (0 without)");
        int[][] due = {{0, 0, 0}, {0, 1, 0}, {1, 0, 100}, {1, 1, 50}, {1, 2, 33}, {2, 1, 66}, {1, 99, 1}, {99, 1, 99}, {1, 98, 1}, {98, 1, 98}};
        for (int[] d : due) {
            is(d[0] + " with " + d[1], told(ONE + " shade " + d[0] + ";" + ONE + " shade " + d[1]).witness(0, 6), d[2]);
        }
        is("below a hundredth", told(ONE + " shade 1;" + ONE + " shade 99;" + ONE + " shade 1").witness(0, 6), 0);
    }

    private static long fitsOf(BlushCourt x, int... bytes) {
        feed(x, bytes);
        return x.fits();
    }

    private static long sureOf(BlushCourt x, int... bytes) {
        feed(x, bytes);
        return x.sure();
    }

    private static long neverOf(BlushCourt x, int... bytes) {
        feed(x, bytes);
        return x.never();
    }

    private static long nextOf(BlushCourt x, int... bytes) {
        feed(x, bytes);
        return x.next();
    }

    private static void fits() {
        holds(27, "FITS: told are rows: a QUESTION, a WITNESS and by how much it RISES (0 to 255; by all as it is now, but for what is SO)");
        BlushCourt x = told("witness skin 9 shame 9;thing weight 9 touches a;ask a", "rise 99;rise 66");
        is("0", fitsOf(x, 0, 0, 0), 1);
        is("254", fitsOf(x, 0, 0, 254), 0);
        is("255", fitsOf(x, 0, 0, 255), 1);
        is("sure of 255", sureOf(x, 0, 0, 255), 1);
        law(x, "rise 99;rise 67");
        is("255 of 256", fitsOf(x, 0, 0, 255), 0);
        is("256 is not 0", neverOf(x, 0, 0, 0), 1);
        is("256 is not 0", fitsOf(x, 0, 0, 0), 1);
        law(x, "");
        x.tell(0, true);
        is("not by what is so", fitsOf(x, 0, 0, 0), 1);
        x.drink(0, 50);
        is("by drink as it is now", sureOf(x, 0, 0, 40), 1);
        is("by drink as it was", fitsOf(x, 0, 0, 90), 0);

        holds(27, "(Of what is SO:) A WORLD: some set of THINGS is SO, the others are not");
        for (int things = 0; things <= 6; things++) {
            is("worlds of " + things + " things", fitsOf(things == 0 ? told(ONE) : told(ONE + ";" + times(things, "thing weight 1"))), 1 << things);
        }
        BlushCourt apart = told(ONE + ";thing weight 1 touches a so;thing weight 2 touches a;thing weight 4 touches a so;ask abc", "");
        for (int world = 0; world < 8; world++) {
            is("the one world of " + world, fitsOf(apart, 0, 0, world), 1);
            is("so in it", sureOf(apart, 0, 0, world), world);
            is("not so in it", neverOf(apart, 0, 0, world), 7 - world);
        }

        holds(27, "WORLDS in which all rows are so: how many");
        BlushCourt none = new BlushCourt();
        is("without things one world", fitsOf(none), 1);
        is("without things nothing is sure", sureOf(none), 0);
        is("without things nothing is never", neverOf(none), 0);
        BlushCourt y = told(ONE + ";" + times(6, "thing weight 1 touches a") + ";ask abcdef;ask a", "");
        int[] ways = {1, 6, 15, 20, 15, 6, 1, 0};
        for (int n = 0; n < ways.length; n++) {
            is(n + " of six", fitsOf(y, 0, 0, n), ways[n]);
        }
        is("none told", fitsOf(y), 64);
        is("told twice", fitsOf(y, 0, 0, 3, 0, 0, 3), 20);
        is("told twice, not alike", fitsOf(y, 0, 0, 3, 0, 0, 4), 0);
        is("two rows", fitsOf(y, 0, 0, 3, 1, 0, 1), 10);
        holds(28, "SURE: THINGS that are SO in all of them, as bits (0 without a WORLD)");
        is("none", sureOf(y), 0);
        is("one", sureOf(y, 1, 0, 1), 1);
        is("all", sureOf(y, 0, 0, 6), 63);
        is("none, as nothing is so in the one world", sureOf(y, 0, 0, 0), 0);
        is("without a world", sureOf(y, 0, 0, 7), 0);
        holds(29, "NEVER: THINGS that are SO in none of them, as bits (all without)");
        is("none", neverOf(y), 0);
        is("one", neverOf(y, 1, 0, 0), 1);
        is("all, as nothing is so in the one world", neverOf(y, 0, 0, 0), 63);
        is("all, without a world", neverOf(y, 0, 0, 7), 63);
    }

    private static void next() {
        holds(30, "NEXT: the QUESTION for which those that fit are parted, by what all WITNESSES RISE by it, so that the greatest part is the least (of several the least; none with fewer than two, or without QUESTIONS)");
        BlushCourt x = told(ONE + ";thing weight 1 touches a;thing weight 2 touches a;thing weight 4;ask c;ask a;ask b;ask ab;ask abc", "");
        is("greatest parts 8, 4, 4, 2, 2", nextOf(x), 3);
        is("of several the least, all in one part", nextOf(x, 3, 0, 3), 0);
        is("parts 4, 2, 4, 2, 2", nextOf(x, 2, 0, 2), 1);
        BlushCourt two = told(ONE + ";thing weight 1 touches a;ask a");
        is("two", nextOf(two), 0);
        is("one", nextOf(two, 0, 0, 1), NONE);
        is("without a world", nextOf(two, 0, 0, 2), NONE);
        is("without questions", nextOf(told(ONE + ";thing weight 1 touches a")), NONE);
        is("without things", nextOf(told(ONE)), NONE);
        is("without witnesses all are in one part", nextOf(told("thing weight 1;ask a;ask a")), 0);
        BlushCourt last = told(ONE + ";thing weight 1;thing weight 1 touches a;" + times(7, "ask a") + ";ask b", "");
        is("the last one of eight", nextOf(last), 7);
        BlushCourt all = told("witness skin 0 shame 9;witness skin 0 shame 1;thing weight 1 touches a;thing weight 1 touches b;ask a;ask ab", "");
        is("by what all witnesses rise", nextOf(all), 1);
        is("those that fit alone", nextOf(all, 1, 1, 1), 0);
        BlushCourt three = told(ONE + ";witness skin 1 shame 0 drink 2;thing weight 1 touches ab;thing weight 2 touches ab;ask b;ask ab", "");
        is("the world of nothing counts, too: parts of 2 and of 1", nextOf(three, 1, 1, 0), 1);
    }

    /** Whether these calls, told these bytes, are refused with the tape used up, or answer. */
    private static void tellRows(String what, boolean right, Maker maker, int... bytes) {
        Look[] calls = {x -> x.fits(), x -> x.sure(), x -> x.never(), x -> x.next()};
        for (int i = 0; i < calls.length; i++) {
            promise = 27 + i;
            rowsAre(what, right, maker.make(), calls[i], bytes);
        }
    }

    private static void tellWritten(String what, boolean right, Maker maker, int... bytes) {
        promise = 36;
        rowsAre(what, right, maker.make(), x -> x.wrong(), bytes);
        promise = 37;
        rowsAre(what, right, maker.make(), x -> x.shades(0), bytes);
    }

    private static void rowsAre(String what, boolean right, BlushCourt x, Look call, int... bytes) {
        feed(x, bytes);
        String got = "answered";
        try {
            call.on(x);
        } catch (IllegalArgumentException e) {
            got = "refused";
        }
        same(what, got, right ? "answered" : "refused");
        is("the tape is used up by " + what, x.feed(0, 0, 0, 0, 0), 20);
    }

    private static void tapeOfRows() {
        holds(27, "Uses the TAPE up: FITS (of each three bytes: the QUESTION, the WITNESS, by how much; at most 45). "
                + "IllegalArgumentException: the TAPE is not that (none may be told)");
        Maker small = () -> told(times(2, ONE) + ";thing weight 1 touches a;ask a;ask a;ask a;woman sharp 2;woman sharp 3;woman sharp 4");
        Maker full = () -> told(times(5, ONE) + ";thing weight 1 touches a;" + times(8, "ask a"));
        Maker bare = () -> new BlushCourt();
        for (int bytes : new int[] {0, 3, 42, 45}) {
            tellRows(bytes + " bytes", true, small, new int[bytes]);
        }
        for (int bytes : new int[] {1, 2, 4, 44, 46, 47, 48, 60, 135, 138, 399, 400}) {
            tellRows(bytes + " bytes", false, small, new int[bytes]);
        }
        tellRows("the last question, the last witness", true, small, 2, 1, 255);
        tellRows("a question that is none", false, small, 3, 1, 0);
        tellRows("a witness that is none", false, small, 2, 2, 0);
        tellRows("a question of 255", false, small, 255, 0, 0);
        tellRows("a witness of 255", false, small, 0, 255, 0);
        tellRows("the last row has none", false, small, 0, 0, 0, 1, 1, 1, 3, 0, 0);
        tellRows("question 7, witness 4", true, full, 7, 4, 0);
        tellRows("question 8", false, full, 8, 4, 0);
        tellRows("witness 5", false, full, 7, 5, 0);
        tellRows("none, of a court without any", true, bare);
        tellRows("a row, of a court without any", false, bare, 0, 0, 0);
        holds(36, "WRONG (of each three bytes: the woman, the WITNESS, the number; at most 45), as bits. "
                + "IllegalArgumentException: the TAPE is not that (none may be told)");
        for (int bytes : new int[] {0, 3, 42, 45}) {
            tellWritten(bytes + " bytes", true, small, new int[bytes]);
        }
        for (int bytes : new int[] {1, 2, 4, 44, 46, 47, 48, 60, 135, 138, 399, 400}) {
            tellWritten(bytes + " bytes", false, small, new int[bytes]);
        }
        tellWritten("the last woman, the last witness, 99", true, small, 2, 1, 99);
        tellWritten("100", false, small, 2, 1, 100);
        tellWritten("255", false, small, 2, 1, 255);
        tellWritten("a woman that is none", false, small, 3, 1, 0);
        tellWritten("a witness that is none", false, small, 2, 2, 0);
        tellWritten("the last row has none", false, small, 0, 0, 0, 1, 1, 1, 0, 2, 0);
        promise = 36;
        rowsAre("none, of a court without any", true, bare.make(), x -> x.wrong());
        rowsAre("a row, of a court without any", false, bare.make(), x -> x.wrong(), 0, 0, 0);
        holds(37, "Uses the TAPE up: SHADES (the TAPE likewise)");
        for (int witness : new int[] {-1, 2, Integer.MIN_VALUE, Integer.MAX_VALUE}) {
            BlushCourt x = small.make();
            feed(x, 0, 0);
            fails("shades of none, the tape wrong, too", INDEX, () -> x.shades(witness));
            is("the tape is used up", x.feed(0, 0, 0, 0, 0), 20);
        }
    }

    private static void known() {
        holds(8, "KNOWN of a THING: the fewest QUESTIONS so that of no two WORLDS in which by each of these all WITNESSES RISE alike "
                + "one has it SO and the other one not: of several the least as bits; none");
        BlushCourt x = told(ONE + ";thing weight 1 touches a;thing weight 1 touches a;thing weight 2;ask ab;ask a;ask b;ask b;ask c", "");
        is("one", x.thing(0, 4), 2);
        is("of several the least", x.thing(1, 4), 4);
        is("none, though it is asked", x.thing(2, 4), NONE);
        x.words(2, 4);
        x.words(3, 4);
        is("two, as none is enough", x.thing(1, 4), 3);
        x.words(1, 4);
        is("none", x.thing(1, 4), NONE);
        is("without questions", told(ONE + ";thing weight 1 touches a").thing(0, 4), NONE);
        BlushCourt two = told(ONE + ";thing weight 1 touches a;thing weight 1 touches a;ask ab;ask ab;ask a;ask a", "");
        is("of several pairs the least", two.thing(1, 4), 5);
        BlushCourt fewest = told(ONE + ";thing weight 1 touches a;thing weight 1 touches a;ask ab;ask a;ask b", "");
        is("the fewest ahead of the least", fewest.thing(1, 4), 4);
        BlushCourt last = told(ONE + ";thing weight 1 touches a;thing weight 1;" + times(7, "ask b") + ";ask a");
        is("the last one of eight", last.thing(0, 4), 128);
        BlushCourt all = told(ONE + ";" + times(6, "thing weight 1 touches a") + ";ask ef;ask de;ask cd;ask bc;ask ab;ask a", "");
        is("by all six together", all.thing(5, 4), 63);
        is("by four of them", all.thing(3, 4), 60);
        BlushCourt other = told("witness skin 0 shame 0;witness skin 0 shame 1;thing weight 1 touches ab;ask a");
        is("by one of all witnesses", other.thing(0, 4), 1);
    }

    private static void dark() {
        holds(31, "DARK: THINGS that are not KNOWN by all QUESTIONS together, as bits");
        is("without things", new BlushCourt().dark(), 0);
        is("without questions all", told(ONE + ";" + times(6, "thing weight 1 touches a")).dark(), 63);
        is("none", told(ONE + ";thing weight 1 touches a;thing weight 2 touches a;ask ab").dark(), 0);
        is("two that weigh alike", told(ONE + ";thing weight 1 touches a;thing weight 1 touches a;thing weight 3 touches a;ask ab;ask c").dark(), 3);
        is("three at a time, four in all", told(ONE + ";thing weight 1 touches a;thing weight 1 touches a;thing weight 5 touches a;"
                + "thing weight 6 touches a;ask abcd").dark(), 15);
        is("one that touches nobody", told(ONE + ";thing weight 1 touches a;thing weight 1;ask ab").dark(), 2);
        is("without witnesses", told("thing weight 1;ask a").dark(), 1);
        is("who does not rise", told("witness skin 1 shame 0 drink 1;thing weight 1 touches a;ask a").dark(), 1);
    }

    private static void tells() {
        holds(32, "TELLS of a QUESTION: into how many parts WORLDS fall by what all WITNESSES RISE by it");
        BlushCourt x = told("witness skin 1 shame 0;witness skin 1 shame 0;thing weight 1 touches a;thing weight 2 touches a;thing weight 4 touches a;"
                + "thing weight 8 touches a;thing weight 1 touches b;thing weight 2 touches b;ask abcdef;ask a;ask ab;ask abe", "");
        is("all 64", x.tells(0), 64);
        is("two", x.tells(1), 2);
        is("four", x.tells(2), 4);
        is("eight", x.tells(3), 8);
        is("one, if nobody rises", told("thing weight 1;ask a").tells(0), 1);
        for (int many = 1; many <= 5; many++) {
            is("those that weigh alike are one part to " + many, told(times(many, ONE) + ";" + times(6, "thing weight 1 touches a") + ";ask abcdef", "")
                    .tells(0), 7);
        }
        BlushCourt five = told(times(5, ONE) + ";thing weight 1 touches a;thing weight 1 touches b;thing weight 1 touches c;thing weight 1 touches d;"
                + "thing weight 1 touches e;thing weight 2 touches e;ask abcdef;ask abcde;ask ef", "");
        is("all 64 by five", five.tells(0), 64);
        is("32 by five", five.tells(1), 32);
        is("four by the last one", five.tells(2), 4);
        BlushCourt y = told(ONE + ";thing weight 1 touches a so;ask a");
        is("in any world, so or not", y.tells(0), 2);
        is("above 99 not cut", told("witness skin 9 shame 0 shade 99;thing weight 9 touches a;thing weight 8 touches a;ask ab", "rise 99").tells(0), 4);
    }

    private static void shared() {
        holds(33, "SHARED of a QUESTION: how often one who is touched by it and one who is not stand side by side");
        String five = times(5, "witness skin 0 shame 9");
        String[] touched = {"a", "b", "c", "ab", "ac", "ace", "bd", "abcde", "ae", "bcd"};
        int[] due = {1, 2, 2, 1, 3, 4, 4, 0, 2, 2};
        for (int i = 0; i < touched.length; i++) {
            is("touched " + touched[i], told(five + ";thing weight 1 touches " + touched[i] + " so;ask a").shared(0), due[i]);
        }
        is("nobody touched", told(five + ";thing weight 1 so;ask a").shared(0), 0);
        is("not so", told(five + ";thing weight 1 touches b;ask a").shared(0), 0);
        is("one alone", told("witness skin 0 shame 9;thing weight 1 touches a so;ask a").shared(0), 0);
        is("without witnesses", told("thing weight 1 so;ask a").shared(0), 0);
        is("touched, though it does not rise", told("witness skin 0 shame 0;witness skin 0 shame 0;thing weight 1 touches a so;ask a").shared(0), 1);
        BlushCourt x = told(five + ";thing weight 1 touches bd so;ask a");
        x.change(1, 0);
        is("by places", x.shared(0), 3);
    }

    private static void rowIs(BlushCourt x, int... due) {
        for (int place = 0; place < due.length; place++) {
            is("row(0, " + place + ")", x.row(0, place), due[place]);
        }
    }

    private static BlushCourt touching(int many, String touched) {
        return told("witness skin 0 shame 9;".repeat(many) + "thing weight 1" + touched + " so;ask a");
    }

    private static void apart() {
        holds(34, "APART of a QUESTION: the fewest changes of two who stand side by side by which SHARED of it is the least that it can be in any row: how many");
        String[] touched = {"", " touches a", " touches b", " touches c", " touches d", " touches ab", " touches ac", " touches ae", " touches ace",
            " touches bd", " touches abcde", " touches bc", " touches bcd"};
        int[] due = {0, 0, 1, 2, 1, 0, 1, 3, 3, 3, 0, 2, 3};
        for (int i = 0; i < touched.length; i++) {
            is("apart of" + touched[i], touching(5, touched[i]).apart(0), due[i]);
        }
        is("one alone", touching(1, " touches a").apart(0), 0);
        is("two", touching(2, " touches b").apart(0), 0);
        is("without witnesses", touching(0, "").apart(0), 0);
        holds(35, "ROW of it: who stands in a PLACE in the row of the fewest changes so (of several the first, PLACE by PLACE, the lesser WITNESS)");
        rowIs(touching(5, ""), 0, 1, 2, 3, 4);
        rowIs(touching(5, " touches c"), 0, 1, 3, 4, 2);
        rowIs(touching(5, " touches ae"), 0, 4, 1, 2, 3);
        rowIs(touching(5, " touches ace"), 0, 2, 4, 1, 3);
        rowIs(touching(3, " touches b"), 0, 2, 1);
        rowIs(touching(1, " touches a"), 0);
        BlushCourt x = touching(3, " touches b");
        x.change(0, 2);
        rowIs(x, 1, 2, 0);
        is("changes from the row as it is now", x.apart(0), 1);
        BlushCourt y = touching(5, "");
        y.change(0, 4);
        rowIs(y, 4, 1, 2, 3, 0);
        is("the row itself stays", y.stands(0), 4);
        fails("row(0, 5)", INDEX, () -> y.row(0, 5));
        fails("row(0, -1)", INDEX, () -> y.row(0, -1));
        fails("row(1, 0)", INDEX, () -> y.row(1, 0));
        fails("row(0, 0) without witnesses", INDEX, () -> touching(0, "").row(0, 0));
    }

    private static long wrongOf(BlushCourt x, int... bytes) {
        feed(x, bytes);
        return x.wrong();
    }

    private static long shadesOf(BlushCourt x, int witness, int... bytes) {
        feed(x, bytes);
        return x.shades(witness);
    }

    private static final String WOMEN = times(2, ONE) + ";woman sharp 10;woman sharp 7;woman sharp 20;woman sharp 10";

    private static void wrong() {
        holds(36, "WRONG: told are rows: a woman, a WITNESS and what she wrote (0 to 99): the fewest women, whose rows are left out, so that of each "
                + "WITNESS some SHADE (0 to 99) is READ by all others as they wrote: of several the least as bits (told twice, both must be so)");
        BlushCourt x = told(WOMEN);
        is("none told", wrongOf(x), 0);
        is("0", wrongOf(x, 0, 0, 0, 1, 0, 0, 2, 0, 0, 3, 0, 0), 0);
        is("99, which none of them writes", wrongOf(x, 0, 0, 99), 1);
        is("the last one alone", wrongOf(x, 3, 1, 5), 8);
        is("90 and 91", wrongOf(x, 0, 0, 90, 1, 0, 91, 2, 0, 80, 3, 0, 90), 0);
        is("of two the least", wrongOf(x, 0, 0, 10, 1, 0, 21), 1);
        is("of two the one with the other against a third", wrongOf(x, 0, 0, 10, 1, 0, 21, 2, 0, 20), 1);
        is("the one against two", wrongOf(x, 0, 0, 10, 1, 0, 21, 3, 0, 10), 2);
        is("one more than all shades", wrongOf(x, 0, 0, 10, 3, 0, 20), 1);
        is("the stretches touch at one", wrongOf(x, 0, 0, 20, 1, 0, 14), 0);
        is("the stretches miss by one", wrongOf(x, 0, 0, 30, 1, 0, 21), 1);
        is("told twice alike", wrongOf(x, 0, 0, 10, 0, 0, 10), 0);
        is("told twice, not alike", wrongOf(x, 2, 0, 20, 2, 0, 40), 4);
        is("of two witnesses", wrongOf(x, 0, 0, 10, 0, 1, 20), 0);
        is("the second witness counts, too", wrongOf(x, 0, 1, 10, 1, 1, 21), 1);
        is("all", wrongOf(x, 0, 0, 1, 1, 0, 1, 2, 1, 1, 3, 1, 1), 15);
        is("fewest ahead of least", wrongOf(x, 0, 0, 10, 1, 1, 14, 3, 0, 20, 3, 1, 30), 8);
    }

    private static void shades() {
        holds(37, "SHADES of a WITNESS (by the same rows, none left out): how many SHADES it may have");
        BlushCourt x = told(WOMEN);
        is("none told", shadesOf(x, 0), 100);
        is("of another one", shadesOf(x, 1, 0, 0, 10), 100);
        is("0", shadesOf(x, 0, 0, 0, 0), 10);
        is("90", shadesOf(x, 0, 0, 0, 90), 10);
        is("80 by 20", shadesOf(x, 0, 2, 0, 80), 20);
        is("91 by 7", shadesOf(x, 0, 1, 0, 91), 7);
        is("98 by 7: 98 and 99", shadesOf(x, 0, 1, 0, 98), 2);
        is("99 by 10", shadesOf(x, 0, 0, 0, 99), 0);
        is("both 14 and 20", shadesOf(x, 0, 0, 0, 20, 1, 0, 14), 1);
        is("both 21 and 30", shadesOf(x, 0, 0, 0, 30, 1, 0, 21), 0);
        is("90 and 98", shadesOf(x, 0, 0, 0, 90, 1, 0, 98), 2);
        is("twice", shadesOf(x, 0, 0, 0, 90, 0, 0, 90), 10);
        is("twice, not alike", shadesOf(x, 0, 0, 0, 90, 0, 0, 80), 0);
        BlushCourt y = told(ONE + ";woman sharp 1;woman sharp 3;woman sharp 11");
        is("99 by 1", shadesOf(y, 0, 0, 0, 99), 1);
        is("99 by 3", shadesOf(y, 0, 1, 0, 99), 1);
        is("99 by 11", shadesOf(y, 0, 2, 0, 99), 1);
        is("98 by 3", shadesOf(y, 0, 1, 0, 98), 0);
        is("96 by 3", shadesOf(y, 0, 1, 0, 96), 3);
        is("without women", shadesOf(told(ONE), 0), 100);
        is("its own shade does not count", shadesOf(told(ONE + " shade 50;woman sharp 10"), 0, 0, 0, 10), 10);
    }

    private static void vinegar() {
        holds(38, "VINEGAR of a WITNESS and a QUESTION: the least DRINK (0 to 99) in place of its own, all else as it is, with which no woman would READ more "
                + "of it behind than ahead of it; none");
        String one = "witness skin 9 shame 9 drink 5;thing weight 9 touches a so;thing weight 9 touches a;ask a;ask b;woman sharp 1";
        is("all of it", told(one).vinegar(0, 0), 90);
        is("99", told(one, "rise 9").vinegar(0, 0), 99);
        is("more than there is", told(one, "rise 10").vinegar(0, 0), NONE);
        is("0, as it is not touched", told(one).vinegar(0, 1), 0);
        is("0, without women", told("witness skin 9 shame 9;thing weight 9 touches a so;ask a").vinegar(0, 0), 0);
        is("0, as it is as red as can be", told("witness skin 9 shame 9 shade 99;thing weight 9 touches a so;ask a;woman sharp 1").vinegar(0, 0), 0);
        is("by who reads best", told(one + ";woman sharp 20").vinegar(0, 0), 90);
        is("19 are not read", told("witness skin 9 shame 9 drink 50;thing weight 9 touches a so;ask a;woman sharp 20").vinegar(0, 0), 71);
        String two = "witness skin 9 shame 9;witness skin 0 shame 9 drink 9;thing weight 1 touches a so;ask a;woman sharp ";
        is("by another one: none", told(two + "9").vinegar(1, 0), NONE);
        is("by another one: not read", told(two + "10").vinegar(1, 0), 0);
        is("not the least that is drunk, but the least with which", told(one, "rise 99 if drink < 9;rise 50 if drink > 8 and drink < 99").vinegar(0, 0), 99);
        is("a drink between", told("witness skin 1 shame 0;thing weight 1 touches a so;ask a;woman sharp 1", "rise 99 if drink > 5").vinegar(0, 0), 1);
        BlushCourt x = told(one);
        x.vinegar(0, 0);
        is("drink stays", x.witness(0, 2), 5);
        law(x, "rise 20 if heat > 5");
        x.heat(6);
        is("by all else as it is now", x.vinegar(0, 0), NONE);
        x.say(0);
        is("by its shade as it is now", x.vinegar(0, 0), 0);
    }

    private static void foundOut() {
        holds(7, "FOUND OUT of a WITNESS: QUESTIONS by which some woman would READ more of it, as bits");
        String one = "witness skin 1 shame 4 shade 5;thing weight 1 touches a so;thing weight 1 touches a;";
        is("all eight", told(one + times(8, "ask a") + ";woman sharp 10").witness(0, 8), 255);
        is("none, without women", told(one + "ask a").witness(0, 8), 0);
        is("none, without questions", told(one + "woman sharp 1").witness(0, 8), 0);
        is("some", told(one + "ask a;ask b;ask ab;woman sharp 20;woman sharp 10").witness(0, 8), 5);
        is("not read", told(one + "ask a;woman sharp 11;woman sharp 20").witness(0, 8), 0);
        is("99 at most", told("witness skin 1 shame 4 shade 99;thing weight 1 touches a so;ask a;woman sharp 1").witness(0, 8), 0);
    }

    private static void betrays() {
        holds(39, "BETRAYS of two: whether the second one RISES by some QUESTION in which it is not touched and the first one is");
        BlushCourt x = told(FOUR);
        is("next to it", x.betrays(0, 1), true);
        is("the other way", x.betrays(1, 0), true);
        is("not next to it", x.betrays(0, 2), false);
        is("not so", x.betrays(3, 2), false);
        x.tell(3, true);
        is("so now", x.betrays(3, 2), true);
        BlushCourt y = told("witness skin 0 shame 9;witness skin 0 shame 9;thing weight 1 touches ab so;ask a");
        is("both are touched", y.betrays(0, 1), false);
        BlushCourt z = told("witness skin 0 shame 9;witness skin 0 shame 9;witness skin 0 shame 0;thing weight 1 touches ac so;ask a");
        is("it rises by another one who is touched", z.betrays(2, 1), true);
        is("without questions", told(times(2, "witness skin 0 shame 9")).betrays(0, 1), false);
        is("rises by 0", told("witness skin 0 shame 1;witness skin 0 shame 9;thing weight 1 touches a so;ask a").betrays(0, 1), false);
        is("the last one of eight", told("witness skin 0 shame 9;witness skin 0 shame 9;thing weight 1;thing weight 1 touches a so;" + times(7, "ask a")
                + ";ask b").betrays(0, 1), true);
    }

    private static void heats() {
        holds(40, "HEATS: the HEAT (0 to 9) with which the most WITNESSES have the SHADE 0 behind (a) of the next MOMENT "
                + "(those who have it now, too; of several the least)");
        is("without witnesses", new BlushCourt().heats(), 0);
        is("of several the least", told(times(3, ONE)).heats(), 0);
        is("10 falls with 0 alone", told(ONE + " shade 10").heats(), 0);
        is("11 never falls to 0", told(ONE + " shade 11").heats(), 0);
        is("9 alone", told(ONE + " shade 60", "fall 59 if heat > 8").heats(), 9);
        is("one too few", told(ONE + " shade 61", "fall 59 if heat > 8").heats(), 0);
        is("10 is no heat", told(ONE + " shade 60", "fall 60 if heat > 9").heats(), 0);
        is("8 of 8 and 9", told(ONE + " shade 60", "fall 59 if heat > 7").heats(), 8);
        is("most count, the pale too", told(ONE + ";" + ONE + " shade 9;" + ONE + " shade 40", "fall 40 if heat > 4 and shade > 30").heats(), 0);
        is("one more of them", told(ONE + ";" + ONE + " shade 5;" + ONE + " shade 40", "fall 40 if heat > 4 and shade > 30").heats(), 5);
        BlushCourt x = told(ONE + " shade 60;heat 7", "fall 59 if heat > 8");
        x.heats();
        is("heat stays", x.count(7), 7);
        x.moments(1);
        is("by shades as they are now", x.heats(), 9);
        x.moments(1);
        x.powder(0);
        is("by shades as they are now", x.heats(), 0);
    }

    private static void couplesAre(String text, int... due) {
        BlushCourt x = told(text);
        for (int woman = NONE; woman < due.length - 1; woman++) {
            is("couples(" + woman + ") of " + text, x.couples(woman), due[woman + 1]);
        }
        int women = due.length - 1;
        fails("couples(" + women + ") of " + text, INDEX, () -> x.couples(women));
        fails("couples(-2) of " + text, INDEX, () -> x.couples(-2));
    }

    private static void couples() {
        holds(41, "COUPLES: women put two by two, each in one such pair at most, so that WITNESSES of whom both of a pair write unlike things are together "
                + "the most: how many; with whom one is in the first such way (one by one, none being the least, then the others); none");
        String three = ONE + " shade 6;" + ONE + " shade 10;" + ONE + " shade 15;heat 3";
        couplesAre("heat 3", 0);
        couplesAre("heat 3;woman sharp 2", 0, NONE);
        couplesAre("heat 3;woman sharp 2;woman sharp 3", 0, NONE, NONE);
        couplesAre(three + ";woman sharp 2", 0, NONE);
        couplesAre(three + ";woman sharp 2;woman sharp 2", 0, NONE, NONE);
        couplesAre(three + ";woman sharp 2;woman sharp 20", 3, 1, 0);
        couplesAre(three + ";woman sharp 2;woman sharp 2;woman sharp 20", 3, NONE, 2, 1);
        couplesAre(three + ";woman sharp 20;woman sharp 2;woman sharp 2", 3, 1, 0, NONE);
        couplesAre(three + ";woman sharp 2;woman sharp 2;woman sharp 20;woman sharp 20", 6, 2, 3, 0, 1);
        couplesAre(three + ";woman sharp 2;woman sharp 20;woman sharp 2;woman sharp 20", 6, 1, 0, 3, 2);
        couplesAre(three + ";woman sharp 2;woman sharp 2;woman sharp 2;woman sharp 20", 3, NONE, NONE, 3, 2);
        couplesAre(three + ";woman sharp 2;woman sharp 2;woman sharp 2;woman sharp 2", 0, NONE, NONE, NONE, NONE);
        BlushCourt x = told(three + ";woman sharp 2;woman sharp 20");
        is("three", x.couples(NONE), 3);
        for (int w = 0; w < 3; w++) {
            x.powder(w);
            is("by shades as they are now", x.couples(NONE), 2 - w);
        }
        is("nobody any more", x.couples(0), NONE);
        couplesAre(times(5, ONE + " shade 99") + ";woman sharp 1;woman sharp 2;woman sharp 10;woman sharp 20", 10, 1, 0, 3, 2);
    }

    private static void sets() {
        holds(42, "BETWEEN of two: WITNESSES who stand between, as bits");
        BlushCourt x = told(times(5, ONE));
        is("the first and the last", x.between(0, 4), 14);
        is("the other way", x.between(4, 0), 14);
        is("side by side", x.between(2, 3), 0);
        is("one between", x.between(3, 1), 4);
        x.change(0, 2);
        is("by places", x.between(1, 3), 1);
        is("by places, side by side", x.between(2, 1), 0);
        holds(8, "LEANS of a THING: QUESTIONS that say it, as bits");
        BlushCourt y = told(times(6, "thing weight 1") + ";ask abcdef;" + times(6, "ask b") + ";ask bf");
        is("all eight", y.thing(1, 3), 255);
        is("one", y.thing(0, 3), 1);
        is("the first and the last", y.thing(5, 3), 129);
        is("none", told("thing weight 1").thing(0, 3), 0);
        holds(43, "ALONE: THINGS that some QUESTION says alone, as bits");
        is("one", y.alone(), 2);
        y.words(7, 32);
        is("two", y.alone(), 34);
        is("without questions", told("thing weight 1").alone(), 0);
        is("all six", told(times(6, "thing weight 1") + ";ask a;ask b;ask c;ask d;ask e;ask f;ask f").alone(), 63);
        is("none", told("thing weight 1;thing weight 1;ask ab").alone(), 0);
        holds(7, "TOUCHED of a WITNESS: THINGS that TOUCH it, as bits");
        BlushCourt z = told(times(5, ONE) + ";thing weight 1 touches ae;thing weight 1 touches a so;thing weight 1;thing weight 1 touches a;"
                + "thing weight 1 touches a;thing weight 1 touches ae");
        is("so or not", z.witness(0, 7), 59);
        is("the first and the last", z.witness(4, 7), 33);
        is("none", z.witness(1, 7), 0);
        holds(49, "SO ones, as bits");
        is("one", z.so(), 2);
        for (int t = 0; t < 6; t++) {
            z.tell(t, true);
        }
        is("all", z.so(), 63);
        z.tell(0, false);
        is("all but the first", z.so(), 62);
        z.tell(5, false);
        is("nor the last", z.so(), 30);
        is("none", new BlushCourt().so(), 0);
    }

    /** One of SHAME and SKIN, touched by a WEIGHT, with so much more to rise by, or so much drunk. */
    private static int rest(int shame, int skin, int weight, int more, int drink) {
        BlushCourt x = told("witness skin " + skin + " shame " + shame + " drink " + drink + ";thing weight " + weight + " touches a so;ask a", "rise " + more);
        return x.rests(0, 0);
    }

    private static void rests() {
        holds(44, "RESTS of a WITNESS and a QUESTION: it tells (0) or keeps (1), unseen, the court says it (0) or does not (1): telling what is said "
                + "it has 0 less SHAME, the court 4; telling unasked it has 1, the court 2");
        is("no shame, much to rise by: telling what is said", rest(0, 9, 9, 0, 0), 1);
        is("shame 9 and nothing to rise by: keeping what is said", rest(9, 0, 9, 0, 99), 4);
        is("shame 1 as good as a rise of 5, and a weight of 1", rest(1, 0, 1, 4, 0), 1);
        is("shame 2 for a rise of 5: the court that gets nothing by it does not ask, and unasked one tells", rest(2, 0, 1, 3, 0), 0);
        holds(44, "keeping unasked both have nothing");
        for (int weight = 1; weight <= 9; weight++) {
            is("never a rest: unasked one would tell", rest(9, 0, weight, 0, 99) & 10, 0);
        }
        is("the court asks for nothing or more", rest(9, 0, 2, 0, 99), 4);
        is("the court does not ask for less", rest(9, 0, 1, 0, 99), 0);
        holds(44, "keeping what is said it has 0 less RISES by 5, rounded down, the court WEIGHT of what touches it, less 2");
        is("rises 15, shame 3: both as good; weight 2: both as good", rest(3, 1, 2, 10, 0), 5);
        is("rises 14, rounded down", rest(3, 1, 2, 9, 0), 4);
        is("rises 19, rounded down", rest(3, 1, 2, 14, 0), 5);
        is("rises 20: telling", rest(3, 1, 2, 15, 0), 1);
        is("weight 1: the court would not ask", rest(3, 1, 1, 11, 0), 1);
        is("weight 1, and it would keep", rest(3, 1, 1, 10, 0), 0);
        is("weight 3, and it would keep", rest(3, 1, 3, 0, 0), 4);
        is("rises 0, shame 0: both as good", rest(0, 0, 2, 0, 0), 5);
        is("rises 4, shame 0: both as good", rest(0, 0, 2, 4, 0), 5);
        is("rises 5, shame 0: telling", rest(0, 0, 2, 5, 0), 1);
        is("drunk: rises 0", rest(1, 1, 2, 0, 99), 4);
        BlushCourt x = told("witness skin 0 shame 9;witness skin 0 shame 0;thing weight 9 touches b;thing weight 9 touches a so;ask a;ask b");
        holds(44, "choices (2 times its and the court's) from which neither would have more by its other one: as bits");
        is("not touched by what is said: weight 0", x.rests(1, 0), 1);
        is("not touched, though it rises by 4", x.rests(1, 1), 1);
        x.tell(0, true);
        is("touched, rises 0", x.rests(1, 0), 5);
        is("weight of what is said alone", x.rests(0, 0), 0);
    }

    private static void odds() {
        holds(45, "ODDS of N MOMENTS (0 to 5) and K (0 to 5): that a WITNESS blushes falsely in K of them at least, each by FALSE, in ten thousandths, rounded down");
        int[][] due = {{0, 0, 0, 10000}, {0, 5, 0, 10000}, {0, 5, 1, 0}, {100, 5, 5, 10000}, {100, 0, 1, 0}, {100, 4, 5, 0}, {50, 5, 5, 312},
            {50, 5, 1, 9687}, {50, 5, 3, 5000}, {50, 0, 0, 10000}, {1, 5, 1, 490}, {1, 2, 2, 1}, {1, 3, 3, 0}, {99, 1, 1, 9900}, {99, 5, 5, 9509},
            {33, 3, 2, 2548}, {10, 4, 4, 1}, {9, 4, 4, 0}, {30, 5, 0, 10000}};
        for (int[] d : due) {
            is("odds of " + d[0] + ", " + d[1] + ", " + d[2], told("false " + d[0]).odds(d[1], d[2]), d[3]);
        }
        BlushCourt x = told("false 50");
        for (int n : new int[] {-1, 6, Integer.MIN_VALUE, Integer.MAX_VALUE}) {
            fails("odds(" + n + ", 0)", ARGUMENT, () -> x.odds(n, 0));
            fails("odds(5, " + n + ")", ARGUMENT, () -> x.odds(5, n));
        }
        is("not by who is there", x.count(0), 0);
    }

    private static void weightiest() {
        holds(46, "WEIGHTIEST: the THING of the most WEIGHT (of several the least; none)");
        is("of several the least", told("thing weight 8;thing weight 9;thing weight 9").weightiest(), 1);
        is("all alike", told(times(6, "thing weight 1")).weightiest(), 0);
        is("the last one", told(times(5, "thing weight 1") + ";thing weight 2").weightiest(), 5);
        is("none", new BlushCourt().weightiest(), NONE);
    }

    private static void twins() {
        holds(47, "TWINS: pairs of WITNESSES of like SKIN and SHAME: how many");
        is("none", new BlushCourt().twins(), 0);
        is("one alone", told(ONE).twins(), 0);
        is("all ten pairs", told(times(5, ONE)).twins(), 10);
        is("drink and shade do not count", told(ONE + ";" + ONE + " drink 9 shade 9").twins(), 1);
        is("skin alone", told("witness skin 1 shame 0;witness skin 1 shame 1").twins(), 0);
        is("shame alone", told("witness skin 1 shame 1;witness skin 2 shame 1").twins(), 0);
        is("the other way round", told("witness skin 1 shame 2;witness skin 2 shame 1").twins(), 0);
        is("two kinds", told(times(2, ONE) + ";" + times(3, "witness skin 2 shame 2")).twins(), 4);
        is("the first and the last", told("witness skin 1 shame 2;witness skin 3 shame 1;witness skin 1 shame 2").twins(), 1);
    }

    private static void blind() {
        holds(48, "BLIND: women who would see nobody by any QUESTION (SEEN), as bits");
        is("none", new BlushCourt().blind(), 0);
        is("without questions", told(ONE + ";" + times(4, "woman sharp 1")).blind(), 15);
        is("without witnesses", told("thing weight 1 so;ask a;woman sharp 1").blind(), 1);
        String nine = "witness skin 0 shame 9;thing weight 1;thing weight 1 touches a so;ask a;ask b;";
        is("nine are read by 9, not by 10", told(nine + "woman sharp 10;woman sharp 9;woman sharp 20;woman sharp 1").blind(), 5);
        is("the first one sees", told(nine + "woman sharp 9;woman sharp 10").blind(), 2);
        is("by the first question alone", told("witness skin 0 shame 9;thing weight 1 touches a so;thing weight 1;ask a;ask b;woman sharp 9").blind(), 0);
        is("not so", told("witness skin 0 shame 9;thing weight 1 touches a;ask a;woman sharp 1").blind(), 1);
    }

    private static void trial() {
        holds(51, "TRIAL of N MOMENTS (0 to 60) from now (draws, too; nothing stays): WITNESSES who are red then, as bits; SHADES of all together");
        BlushCourt x = told(ONE + " shade 49;" + ONE + " shade 50;" + ONE + " shade 99;thing weight 1 touches a so;ask a;talk 50;false 30");
        String was = state(x);
        is("red now", x.trial(0, false), 6);
        is("shades now", x.trial(0, true), 198);
        for (int n : new int[] {1, 2, 59, 60}) {
            int red = x.trial(n, false);
            int all = x.trial(n, true);
            BlushCourt y = told(ONE + " shade 49;" + ONE + " shade 50;" + ONE + " shade 99;thing weight 1 touches a so;ask a;talk 50;false 30");
            y.moments(n);
            is("shades behind " + n, all, y.count(8));
            for (int w = 0; w < 3; w++) {
                is("red behind " + n, red >> w & 1, y.witness(w, 3) >= 50 ? 1 : 0);
            }
        }
        for (int n : new int[] {-1, 61, Integer.MIN_VALUE, Integer.MAX_VALUE}) {
            fails("trial(" + n + ", true)", ARGUMENT, () -> x.trial(n, true));
            fails("trial(" + n + ", false)", ARGUMENT, () -> x.trial(n, false));
        }
        same("nothing stays", state(x), was);
        is("without witnesses", new BlushCourt().trial(60, true) + new BlushCourt().trial(60, false), 0);
    }

    private static int shadeFrom(int seed, int lies, int n) {
        int shade = 30;
        for (int i = 0; i < n; i++) {
            shade = Math.max(0, shade - 7);
            if (drawn(seed, 2 * i + 2) % 100 < lies) {
                shade = Math.min(99, shade + 20);
            }
        }
        return shade;
    }

    private static int edgeFrom(int first, int last, int lies, int n, boolean most) {
        int found = shadeFrom(first, lies, n);
        for (int seed = first + 1; seed <= last; seed++) {
            int shade = shadeFrom(seed, lies, n);
            found = most ? Math.max(found, shade) : Math.min(found, shade);
        }
        return found;
    }

    private static void span() {
        holds(52, "SPAN: the least and the greatest SHADE of any WITNESS then so from SEED 1, 2, .. 6, of all six together (0 without WITNESSES)");
        int[] differ = new int[4];
        for (int lies = 5; lies <= 95; lies += 5) {
            BlushCourt x = told(ONE + " shade 30;false " + lies);
            x.seed(77);
            for (int n = 0; n <= 12; n++) {
                for (boolean most : new boolean[] {false, true}) {
                    int due = edgeFrom(1, 6, lies, n, most);
                    is("span(" + n + ", " + most + ") of false " + lies, x.span(n, most), due);
                    differ[0] += due == edgeFrom(2, 6, lies, n, most) ? 0 : 1;
                    differ[1] += due == edgeFrom(0, 6, lies, n, most) ? 0 : 1;
                    differ[2] += due == edgeFrom(1, 5, lies, n, most) ? 0 : 1;
                    differ[3] += due == edgeFrom(1, 7, lies, n, most) ? 0 : 1;
                }
            }
            is("the seed stays", x.seed(1), 77);
        }
        for (int i = 0; i < 4; i++) {
            is("some tell seeds apart, " + i, differ[i] > 0, true);
        }
        is("0, least", told(ONE + " shade 40;" + ONE + " shade 60").span(0, false), 40);
        is("0, greatest", told(ONE + " shade 60;" + ONE + " shade 40").span(0, true), 60);
        is("60 of falling", told(ONE + " shade 99;heat 9").span(60, true), 39);
        is("60 of falling", told(ONE + " shade 99;heat 9").span(60, false), 39);
        is("99, least", told(ONE + " shade 99").span(0, false), 99);
        BlushCourt none = new BlushCourt();
        is("without witnesses", none.span(0, false) + none.span(60, false) + none.span(60, true), 0);
        for (int n : new int[] {-1, 61, Integer.MIN_VALUE, Integer.MAX_VALUE}) {
            fails("span(" + n + ", true)", ARGUMENT, () -> none.span(n, true));
            fails("span(" + n + ", false)", ARGUMENT, () -> told(ONE).span(n, false));
        }
    }

    private static void counts() {
        holds(59, "0 WITNESSES, 1 THINGS, 2 QUESTIONS, 3 WOMEN, 4 texts of THE COURT, 5 LINES of THE LAW (NONE without one), 6 MOMENT, 7 HEAT, "
                + "8 SHADES of all together, 9 rows of THE LOG, 10 acts that can be UNDONE. NONE for another what");
        BlushCourt x = new BlushCourt();
        int[] first = {0, 0, 0, 0, 0, NONE, 0, 3, 0, 0, 0};
        for (int what = 0; what < first.length; what++) {
            is("count(" + what + ") at first", x.count(what), first[what]);
        }
        court(x, times(5, "witness skin 0 shame 5 shade 99") + ";" + times(6, "thing weight 1 touches abcde so"));
        court(x, times(8, "ask a") + ";" + times(4, "woman sharp 1") + ";moment 999;heat 9");
        law(x, times(12, "rise 1"));
        for (int i = 0; i < 13; i++) {
            x.say(0);
        }
        int[] full = {5, 6, 8, 4, 2, 12, 999, 9, 495, 60, 12};
        for (int what = 0; what < full.length; what++) {
            is("count(" + what + ") of a full court", x.count(what), full[what]);
        }
        for (int what : new int[] {-1, 11, Integer.MIN_VALUE, Integer.MAX_VALUE}) {
            is("count(" + what + ")", x.count(what), NONE);
        }
    }
}
