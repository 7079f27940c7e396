/** The edges of how a shade rises, falls and passes, of moments and draws, of acts, and of the log. */
public final class EdgesOfMoments extends CourtCheck {
    /** One who is touched by a weight of 1 and has the rest of what it rises by from SHAME. */
    private static final String TEN = "witness skin 1 shame 9";
    private static final String TOUCHED_A = ";thing weight 1 touches a so;ask a";

    public static void main(String[] args) {
        weights();
        conditions();
        facts();
        owns();
        falls();
        passes();
        neighbours();
        saying();
        falling();
        talking();
        blushingFalsely();
        orderOfAMoment();
        moments();
        draws();
        ahead();
        reading();
        writing();
        actsAtTheirEdges();
        logRows();
        logOfSixty();
        finish();
    }

    private static void weights() {
        holds(20, "Of a WITNESS: weight: WEIGHT of all THINGS that are said, are SO and TOUCH it, together (0, if nothing is said); touched: that is above 0");
        BlushCourt x = told("witness skin 1 shame 0;thing weight 1 touches a so;thing weight 2 touches a;thing weight 4 so;"
                + "thing weight 8 touches a so;thing weight 9 touches a so;ask abcd;ask b;ask c;ask bc;ask ad;ask ade", "");
        int[] due = {9, 0, 0, 0, 9, 18};
        for (int q = 0; q < due.length; q++) {
            is("rises(" + q + ", 0)", x.rises(q, 0), due[q]);
        }
        x.tell(1, true);
        is("one more is so", x.rises(0, 0), 11);
        is("one that is so touches it", x.rises(1, 0), 2);
        law(x, "rise 50 if touched;fall 3 if touched;fall 5 if weight < 1;fall 9 if weight > 0");
        is("touched", x.rises(1, 0), 52);
        is("not touched", x.rises(2, 0), 0);
        is("nothing is said", x.witness(0, 5), 7 + 5);
        law(x, "fall 5 if weight + 1 > 0;fall 2 if not touched");
        is("nothing is said: 0 and no less", x.witness(0, 5), 7 + 7);
        law(x, "rise 50 if weight > 1;rise 30 if weight < 3");
        is("weight as a part", x.rises(1, 0), 82);
        law(x, "rise 50 if weight > 2;rise 30 if weight < 2");
        is("weight as a part, neither above nor below", x.rises(1, 0), 2);
        BlushCourt one = told(TEN + TOUCHED_A, "rise 5 if touched;rise 9 if not touched");
        is("touched by a weight of 1", one.rises(0, 0), 15);
    }

    /** Whether a condition holds of the middle one of three: a red one touched by a weight of 4, and the heat is 6. */
    private static boolean holds(String condition) {
        BlushCourt x = told("witness skin 1 shame 2;witness skin 3 shame 5 drink 7 shade 50;witness skin 1 shame 1;"
                + "thing weight 4 touches b so;ask a;heat 6", "rise 99 if " + condition);
        return x.rises(0, 1) > 99;
    }

    private static void conditions() {
        holds(5, "C: ALL { or ALL }; ALL: ATOM { and ATOM }; ATOM: not ATOM | ( C ) | touched | red | edge | SUM < SUM | SUM > SUM");
        sums();
        String[] right = {"red", "not edge", "not not red", "(red)", "red or edge", "edge or red", "edge or edge or red", "red and red and red",
            "red or edge and edge", "edge and edge or red", "not edge and red", "not (edge and red)", "not (edge) and red",
            "(red or edge) and red", "red and (edge or red)", "not edge or edge", "not not not not not not red", "((((((red))))))",
            "edge or red and (edge or red and (edge or red and (edge or red and (edge or red and (edge or red and 1+2+3<4+5))))) and red",
            "0 < 1", "1 > 0", "998 < 999", "not 5 < 5", "not 5 > 5", "1 + 1 + 1 > 2", "1 + 2 < 1 + 3", "999 + 999 > 999 + 998",
            "0+0+0+0+0+0+0+0+0+0+0+0+0+0+0+0+0+0+0+0+0+0+0+0+0+0+0+0+0+0+0+0+0+0+0+0+0+0+0+1>0"};
        for (String condition : right) {
            is(condition, holds(condition), true);
        }
        String[] not = {"edge", "not red", "red and edge", "edge and red", "red and edge or edge", "edge or red and edge",
            "(red or edge) and edge", "not (red or edge)", "not red or edge", "not edge and edge", "not not edge",
            "edge or red and (edge or red and (edge or red and (edge or red and (edge or red and (edge or red and 9<4+5)))))",
            "5 < 5", "5 > 5", "0 > 0", "1 + 2 < 3", "3 > 1 + 2", "999 < 999"};
        for (String condition : not) {
            is(condition, holds(condition), false);
        }
    }

    /** Sums as long as a text can be, of numbers and of what is told of one. */
    private static void sums() {
        String fifty = "+skin".repeat(50).substring(1);
        is("fifty times 3 are below 151", holds(fifty + "<151"), true);
        is("and not below 150", holds(fifty + "<150"), false);
        String ones = "+1".repeat(150).substring(1);
        is("a hundred and fifty times 1", holds("151>" + ones), true);
        is("a hundred and fifty times 1", holds("150>" + ones), false);
        String reds = "red and ".repeat(40);
        is("forty atoms and one more", holds(reds + "red"), true);
        is("forty atoms and one that does not hold", holds(reds + "edge"), false);
        String edges = "edge or ".repeat(40);
        is("forty atoms or one more", holds(edges + "red"), true);
        is("forty atoms or one that does not hold", holds(edges + "edge"), false);
    }

    private static void facts() {
        holds(5, "SUM: PART { + PART }; PART: NUMBER | witness | skin | shame | drink | shade | heat | weight | place");
        String[] parts = {"witness", "skin", "shame", "drink", "shade", "heat", "weight", "place"};
        int[] value = {1, 3, 5, 7, 50, 6, 4, 1};
        for (int i = 0; i < parts.length; i++) {
            is(parts[i], holds(parts[i] + " < " + (value[i] + 1) + " and " + parts[i] + " > " + (value[i] - 1)), true);
            is(parts[i] + " below it", holds(parts[i] + " < " + value[i]), false);
            is(parts[i] + " above it", holds(parts[i] + " > " + value[i]), false);
        }
        is("the least witness", told(TEN + TOUCHED_A, "rise 5 if witness < 1").rises(0, 0), 15);
        is("place 0 is not above 0", told(TEN + TOUCHED_A, "rise 5 if place > 0").rises(0, 0), 10);
        BlushCourt x = told(times(2, TEN) + TOUCHED_A, "rise 5 if place > 0;rise 2 if witness > 0");
        x.change(0, 1);
        is("place is not the number", x.rises(0, 0), 15);

        holds(20, "red: its SHADE is 50 at least; edge: it stands first or last");
        for (int shade = 48; shade <= 51; shade++) {
            is("red at " + shade, told(TEN + " shade " + shade + TOUCHED_A, "rise 5 if red").rises(0, 0), shade >= 50 ? 15 : 10);
        }
        for (int n = 1; n <= 5; n++) {
            BlushCourt y = told(times(n, TEN), "fall 2 if edge");
            for (int w = 0; w < n; w++) {
                is("edge of " + w + " among " + n, y.witness(w, 5), w == 0 || w == n - 1 ? 9 : 7);
            }
        }
        BlushCourt z = told(times(3, TEN), "fall 2 if edge");
        z.change(0, 1);
        is("who stands first now", z.witness(1, 5), 9);
        is("who stands between now", z.witness(0, 5), 7);
        court(z, TEN);
        is("who is no longer the last", z.witness(2, 5), 7);
        is("the last now", z.witness(3, 5), 9);
    }

    private static void owns() {
        holds(20, "OWN: 0, if it is not touched; else weight times SKIN, and SHAME, and the sum of N of all rise LINES that hold, less DRINK (0 at least)");
        BlushCourt x = told("witness skin 9 shame 9;witness skin 9 shame 9;thing weight 9 touches a so;ask a",
                "rise 99;rise 1 if edge;rise 2 if not edge");
        is("weight times skin, shame, rise lines that hold", x.rises(0, 0), 81 + 9 + 99 + 1);
        is("not touched", x.rises(0, 1), 0);
        int[] drinks = {0, 9, 10, 11, 99};
        int[] due = {10, 1, 0, 0, 0};
        for (int i = 0; i < drinks.length; i++) {
            BlushCourt y = told(TEN + " drink " + drinks[i] + ";witness skin 1 shame 1" + TOUCHED_A, "pass 90");
            is("own less " + drinks[i], y.rises(0, 0), due[i]);
            is("nothing below 0 is passed", y.rises(0, 1), due[i] * 90 / 100);
        }
        is("rise lines ahead of drink", told(TEN + " drink 12" + TOUCHED_A, "rise 3").rises(0, 0), 1);
        is("skin 0 and shame 0", told("witness skin 0 shame 0" + TOUCHED_A).rises(0, 0), 0);
        is("skin 0, shame 1", told("witness skin 0 shame 1" + TOUCHED_A).rises(0, 0), 1);
        is("all rise lines", told(TEN + TOUCHED_A, times(12, "rise 99")).rises(0, 0), 10 + 12 * 99);
    }

    private static void falls() {
        holds(7, "FALLS by: 10 less HEAT, and the sum of N of all fall LINES that hold");
        for (int heat = 0; heat <= 9; heat++) {
            is("heat " + heat, told(TEN + ";heat " + heat).witness(0, 5), 10 - heat);
        }
        is("lines that hold", told(TEN, "fall 3;fall 4 if edge;fall 50 if red;rise 9;pass 9").witness(0, 5), 14);
        is("all fall lines", told(TEN + ";heat 9", times(12, "fall 99")).witness(0, 5), 1 + 12 * 99);
    }

    private static void passes() {
        holds(20, "PASSES: the sum of N of all pass LINES that hold (without a text 50; 99 at most), in hundredths");
        String hundred = "witness skin 9 shame 9;witness skin 1 shame 1;thing weight 9 touches a so;ask a";
        is("without a text", told(hundred).rises(0, 1), 45);
        String more = "witness skin 9 shame 9;witness skin 1 shame 1;thing weight 9 touches a so;thing weight 9 touches a so;ask ab";
        is("without a text 50 of 171", told(more).rises(0, 1), 85);
        String[] laws = {"rise 10", "rise 10;pass 0", "rise 10;pass 98", "rise 10;pass 99", "rise 10;pass 98;pass 1", "rise 10;pass 99;pass 1",
            "rise 10;pass 99;pass 99", "rise 10;pass 40 if edge;pass 30 if red;pass 20 if touched"};
        int[] due = {0, 0, 98, 99, 99, 99, 99, 60};
        for (int i = 0; i < laws.length; i++) {
            is(laws[i], told(hundred, laws[i]).rises(0, 1), due[i]);
        }
        is("an empty text is one", told(hundred, "").rises(0, 1), 0);
        BlushCourt x = told(hundred);
        lawFault(x, "rise 10;^");
        is("a wrong text is none", x.rises(0, 1), 45);
        is("what that one passes", told(hundred, "pass 10 if witness < 1;pass 80 if witness > 0").rises(0, 1), 9);
        is("weight of it in pass lines", told(hundred, "pass 10 if weight > 8").rises(0, 1), 9);
    }

    private static void neighbours() {
        holds(20, "each WITNESS RISES by its OWN, and of each that stands next to it by OWN of that one times what that one PASSES by 100, rounded down");
        int[][] due = {{1, 0}, {2, 2}, {3, 2}, {4, 4}, {5, 4}};
        for (int[] d : due) {
            BlushCourt x = told("witness skin 0 shame " + d[0] + ";witness skin 9 shame 9;witness skin 0 shame " + d[0]
                    + ";thing weight 1 touches ac so;ask a");
            is("two that have " + d[0], x.rises(0, 1), d[1]);
            is("itself", x.rises(0, 0), d[0]);
        }
        BlushCourt y = told("witness skin 0 shame 9;" + times(4, "witness skin 0 shame 9") + ";thing weight 1 touches a so;"
                + "thing weight 1 touches c so;thing weight 1 touches abcde so;ask a;ask b;ask c");
        int[][] rises = {{9, 4, 0, 0, 0}, {0, 4, 9, 4, 0}, {13, 17, 17, 17, 13}};
        for (int q = 0; q < 3; q++) {
            for (int w = 0; w < 5; w++) {
                is("rises(" + q + ", " + w + ")", y.rises(q, w), rises[q][w]);
            }
        }
        y.change(0, 4);
        is("by places: the first one stands last", y.rises(0, 3), 4);
        is("by places: no longer next to it", y.rises(0, 1), 0);
        is("one alone", told(TEN + TOUCHED_A).rises(0, 0), 10);
        is("99 hundredths of 1", told("witness skin 1 shame 0;witness skin 1 shame 1" + TOUCHED_A, "pass 99").rises(0, 1), 0);
        is("99 hundredths of 2", told("witness skin 1 shame 1;witness skin 1 shame 1" + TOUCHED_A, "pass 99").rises(0, 1), 1);
    }

    private static void saying() {
        holds(13, "A QUESTION is said: by all as it is ahead of it");
        String[] rows = {"witness skin 1 shame 0 shade 49;witness skin 9 shame 9;thing weight 1 touches a so;ask a",
            "witness skin 9 shame 9;witness skin 1 shame 0 shade 49;thing weight 1 touches b so;ask a"};
        for (int i = 0; i < 2; i++) {
            BlushCourt x = told(rows[i], "rise 40 if red;pass 50");
            is("who rises", x.say(0), 1 << i);
            is("it is red behind it alone", x.witness(i, 3), 50);
            is("what is passed", x.witness(1 - i, 3), 0);
            is("red now", x.rises(0, i), 41);
        }
        holds(13, "SHADE of each is so much more (99 at most)");
        for (int shade = 87; shade <= 99; shade++) {
            BlushCourt x = told(TEN + " shade " + shade + TOUCHED_A);
            is("say", x.say(0), 1);
            is("shade behind " + shade, x.witness(0, 3), Math.min(99, shade + 10));
            is("by how much, not cut", x.log(0, 4), 10);
        }
        holds(13, "A QUESTION is said: who RISES above 0, as bits");
        BlushCourt y = told(times(5, TEN) + ";thing weight 1 touches abcde so;thing weight 1 touches abcde;thing weight 1 touches c so;"
                + "ask a;ask b;ask c");
        is("all", y.say(0), 31);
        is("none", y.say(1), 0);
        is("some", y.say(2), 14);
        is("a moment does not go by", y.count(6), 0);
        BlushCourt z = told("witness skin 1 shame 0 drink 1;witness skin 1 shame 1;thing weight 1 touches a so;ask a");
        is("by 0 is not above 0", z.say(0), 0);
        is("who is red to the full still rises", told(TEN + " shade 99" + TOUCHED_A).say(0), 1);
        is("without witnesses", told("thing weight 1;ask a").say(0), 0);
    }

    private static void falling() {
        holds(12, "(a) each WITNESS, by all as it is ahead of it: SHADE is what it FALLS by less (0 at least; nothing is said)");
        int[][] due = {{0, 0}, {1, 0}, {6, 0}, {7, 0}, {8, 1}, {99, 92}};
        for (int[] d : due) {
            BlushCourt x = told(TEN + " shade " + d[0]);
            x.moments(1);
            is("shade behind " + d[0], x.witness(0, 3), d[1]);
        }
        BlushCourt y = told("witness skin 1 shame 1 shade 49;witness skin 1 shame 1 shade 50;witness skin 1 shame 1 shade 57" + TOUCHED_A,
                "fall 10 if red;fall 60 if touched");
        y.moments(1);
        is("not red", y.witness(0, 3), 42);
        is("red", y.witness(1, 3), 33);
        y.moments(1);
        is("red no longer", y.witness(1, 3), 26);
        is("red no longer", y.witness(2, 3), 33);
        BlushCourt z = told(TEN + " shade 99", times(12, "fall 99"));
        z.moments(1);
        is("0 at least", z.witness(0, 3), 0);
    }

    private static void talking() {
        holds(12, "(b) if DRAW modulo 100 is below TALK, and there are QUESTIONS: the QUESTION DRAW modulo how many (a second DRAW just then) is said");
        int[][] due = {{0, 0, 0}, {1, 0, 1}, {1, 1, 0}, {50, 49, 1}, {50, 50, 0}, {99, 98, 1}, {99, 99, 0}, {100, 99, 1}};
        for (int[] d : due) {
            BlushCourt x = told("thing weight 1;ask a;talk " + d[0]);
            int seed = seedOf(1, d[1]);
            x.seed(seed);
            is("talk " + d[0] + ", draw " + d[1], x.moments(1), d[2]);
            is("draws", x.seed(1), afterDraws(seed, 1 + d[2]));
        }
        BlushCourt none = told(TEN + ";talk 100;false 0");
        is("without questions", none.moments(1), 0);
        is("no second draw then", none.seed(1), afterDraws(1, 2));
        for (int many = 1; many <= 8; many++) {
            BlushCourt x = told(TEN + ";thing weight 1 touches a so;" + times(many, "ask a") + ";talk 100");
            for (int seed = 1; seed <= 16; seed++) {
                x.seed(seed);
                is("said", x.moments(1), 1);
                is("the question of " + many, x.log(0, 3), drawn(seed, 2) % many);
            }
        }
    }

    private static void blushingFalsely() {
        holds(12, "(c) each WITNESS, by numbers: if DRAW modulo 100 is below FALSE, SHADE is 20 more (99 at most)");
        int[][] due = {{0, 0, 0}, {1, 0, 20}, {1, 1, 0}, {50, 49, 20}, {50, 50, 0}, {99, 98, 20}, {99, 99, 0}, {100, 99, 20}};
        for (int[] d : due) {
            BlushCourt x = told(TEN + ";false " + d[0]);
            int seed = seedOf(2, d[1]);
            x.seed(seed);
            x.moments(1);
            is("false " + d[0] + ", draw " + d[1], x.witness(0, 3), d[2]);
            is("draws", x.seed(1), afterDraws(seed, 2));
        }
        for (int shade = 78; shade <= 99; shade++) {
            BlushCourt x = told(TEN + " shade " + shade + ";heat 9;false 100");
            x.moments(1);
            is("shade behind " + shade, x.witness(0, 3), Math.min(99, shade - 1 + 20));
            is("20, not cut", x.log(0, 4), 20);
        }
        BlushCourt y = told(times(5, TEN) + ";false 50");
        y.change(0, 4);
        y.change(1, 2);
        for (int seed = 1; seed <= 20; seed++) {
            y.seed(seed);
            y.moments(1);
            int red = 0;
            for (int w = 0; w < 5; w++) {
                red += drawn(seed, 2 + w) % 100 < 50 ? 1 : 0;
            }
            for (int w = 4, ago = 0; w >= 0; w--) {
                if (drawn(seed, 2 + w) % 100 < 50) {
                    is("by numbers, not by places", y.log(ago, 1), w);
                    ago++;
                }
            }
            is("a moment ago", red == 0 || y.log(red - 1, 0) == seed - 1, true);
            is("draws", y.seed(1), afterDraws(seed, 6));
        }
    }

    private static void orderOfAMoment() {
        holds(12, "A MOMENT more: (a) each WITNESS");
        BlushCourt x = told(TEN + " shade 3" + TOUCHED_A + ";talk 100");
        x.moments(1);
        is("falls ahead of what is said", x.witness(0, 3), 10);
        BlushCourt y = told(TEN + " shade 50" + TOUCHED_A + ";talk 100", "rise 30 if red");
        y.moments(1);
        is("not red when it is said", y.witness(0, 3), 53);
        BlushCourt z = told(TEN + " shade 47" + TOUCHED_A + ";talk 100;false 100", "rise 29 if red");
        z.moments(1);
        is("false blushes behind what is said", z.witness(0, 3), 70);
        is("the moment of the row is the one ahead", z.log(0, 0), 0);
        is("a moment more", z.count(6), 1);
    }

    private static BlushCourt atMoment(int moment) {
        BlushCourt x = told(TEN + TOUCHED_A + ";moment " + (moment - 9000));
        for (int i = 0; i < 150; i++) {
            x.moments(60);
        }
        return x;
    }

    private static void moments() {
        holds(12, "MOMENT is 1 more (9999 at most)");
        BlushCourt x = atMoment(9998);
        is("9998", x.count(6), 9998);
        x.moments(1);
        is("9999", x.count(6), 9999);
        x.moments(1);
        is("9999 at most", x.count(6), 9999);
        x.say(0);
        is("the moment of a row", x.log(0, 0), 9999);
        is("the moment of the latest", x.led(0, true), 9999);
        BlushCourt y = atMoment(9990);
        y.moments(60);
        is("9999 at most, in one call", y.count(6), 9999);
        holds(12, "So many MOMENTS more (1 to 60): how many QUESTIONS were said in these");
        BlushCourt z = told("thing weight 1;ask a;talk 100");
        is("one", z.moments(1), 1);
        is("sixty", z.moments(60), 60);
        is("moment", z.count(6), 61);
        for (int n : new int[] {0, 61, -1, Integer.MIN_VALUE, Integer.MAX_VALUE}) {
            fails("moments(" + n + ")", ARGUMENT, () -> z.moments(n));
        }
        is("moment", z.count(6), 61);
    }

    private static void draws() {
        holds(55, "DRAW: SEED is 1103515245 times SEED and 12345, as an int that goes round; bits 16 to 30 (SEED 1 at first)");
        BlushCourt x = new BlushCourt();
        is("at first", x.seed(1), 1);
        x.moments(1);
        is("one draw", x.seed(0), 1103527590);
        x.moments(1);
        is("of 0", x.seed(-1), 12345);
        x.moments(1);
        is("of -1", x.seed(Integer.MAX_VALUE), -1103502900);
        for (int seed : new int[] {Integer.MAX_VALUE, Integer.MIN_VALUE, 1103515245, -12345}) {
            x.seed(seed);
            x.moments(1);
            is("goes round from " + seed, x.seed(0), (int) ((1103515245L * seed + 12345L) % (1L << 32)));
            x.seed(seed);
            x.moments(60);
            is("sixty from " + seed, x.seed(0), afterDraws(seed, 60));
        }
        BlushCourt y = told("thing weight 1;ask a;talk 50");
        int seen = 0;
        for (int seed = 1; seed <= 200; seed++) {
            int next = afterDraws(seed, 1);
            boolean said = (next >>> 16 & 0x7fff) % 100 < 50;
            if (next < 0 && said != (next >>> 16) % 100 < 50 && seen < 20) {
                y.seed(seed);
                is("bit 31 does not count from " + seed, y.moments(1), said ? 1 : 0);
                seen++;
            }
        }
        is("some seeds go below 0", seen, 20);
    }

    private static void ahead() {
        holds(50, "AHEAD by N MOMENTS (0 to 60): as so many MOMENTS without (b) and (c) (no DRAWS)");
        BlushCourt x = told(TEN + " shade 61;witness skin 1 shame 1 shade 60;witness skin 1 shame 1 shade 99" + TOUCHED_A
                + ";heat 9;talk 100;false 100");
        String was = state(x);
        is("0", x.ahead(0, 0), 61);
        is("1", x.ahead(0, 1), 60);
        is("60", x.ahead(0, 60), 1);
        is("60 of a lesser one", x.ahead(1, 60), 0);
        is("59 of it", x.ahead(1, 59), 1);
        is("60 of the last one", x.ahead(2, 60), 39);
        for (int n : new int[] {-1, 61, Integer.MIN_VALUE, Integer.MAX_VALUE}) {
            fails("ahead(0, " + n + ")", ARGUMENT, () -> x.ahead(0, n));
            fails("ahead(3, " + n + ")", INDEX, () -> x.ahead(3, n));
            fails("ahead(-1, " + n + ")", INDEX, () -> x.ahead(-1, n));
        }
        same("nothing changed", state(x), was);
    }

    private static void reading() {
        holds(23, "READS of a woman and a number: that by SHARP, rounded down, times SHARP");
        int[][] due = {{1, 0, 0}, {1, 1, 1}, {1, 99, 99}, {2, 1, 0}, {2, 99, 98}, {7, 6, 0}, {7, 7, 7}, {7, 97, 91}, {7, 98, 98}, {20, 19, 0},
            {20, 20, 20}, {20, 79, 60}, {20, 80, 80}, {20, 99, 80}};
        for (int[] d : due) {
            is("sharp " + d[0] + " of " + d[1], told(TEN + " shade " + d[1] + ";woman sharp " + d[0]).writes(0, 0), d[2]);
        }
    }

    private static void writing() {
        holds(23, "WRITES of a woman and a WITNESS: what she READS of its SHADE");
        BlushCourt x = told("witness skin 0 shame 9 shade 59;" + TEN + " shade 98;thing weight 1 touches a so;ask a;woman sharp 20;woman sharp 7", "");
        int[][] due = {{40, 80}, {56, 98}};
        for (int woman = 0; woman < 2; woman++) {
            for (int w = 0; w < 2; w++) {
                is("writes(" + woman + ", " + w + ")", x.writes(woman, w), due[woman][w]);
            }
        }
        x.say(0);
        is("68 by 20", x.writes(0, 0), 60);
        is("68 by 7", x.writes(1, 0), 63);
        x.change(0, 1);
        is("by its number, not by its place", x.writes(1, 0), 63);
        x.powder(0);
        is("powdered", x.writes(1, 0), 0);
    }

    private static void actsAtTheirEdges() {
        holds(15, "one drinks vinegar (DRINK is more, 99 at most)");
        BlushCourt x = told(times(2, TEN) + TOUCHED_A);
        is("1", x.drink(0, 1), 1);
        is("97 more", x.drink(0, 97), 98);
        is("1 more", x.drink(0, 1), 99);
        is("99 at most", x.drink(0, 1), 99);
        is("99 at once", x.drink(1, 99), 99);
        is("99 more", x.drink(1, 99), 99);
        is("drink", x.witness(1, 2), 99);
        holds(15, "n is none (1 to 99)");
        for (int n : new int[] {0, 100, -1, Integer.MIN_VALUE, Integer.MAX_VALUE}) {
            fails("drink(0, " + n + ")", ARGUMENT, () -> x.drink(0, n));
            fails("drink(2, " + n + ")", INDEX, () -> x.drink(2, n));
        }
        holds(16, "HEAT is told: what it was. IllegalArgumentException: n is none (0 to 9)");
        is("0", x.heat(0), 3);
        is("9", x.heat(9), 0);
        is("9 again", x.heat(9), 9);
        for (int n : new int[] {-1, 10, Integer.MIN_VALUE, Integer.MAX_VALUE}) {
            fails("heat(" + n + ")", ARGUMENT, () -> x.heat(n));
        }
        is("heat", x.count(7), 9);
        holds(17, "A THING is SO, or not: whether that changed");
        is("so already", x.tell(0, true), false);
        is("not", x.tell(0, false), true);
        is("not already", x.tell(0, false), false);
        is("so", x.tell(0, true), true);
        holds(18, "A QUESTION says other THINGS (others than there are count for nothing): which it said, as bits. IllegalArgumentException: there are none");
        BlushCourt y = told(times(6, "thing weight 1") + ";ask a;ask f");
        is("the last one", y.words(0, 32), 1);
        is("all bits", y.words(0, -1), 32);
        is("others count for nothing", y.asks(0), 63);
        is("the greatest bit of none", y.words(0, Integer.MIN_VALUE + 4), 63);
        is("the one that there is", y.asks(0), 4);
        is("the same ones", y.words(0, 4), 4);
        for (int things : new int[] {0, 64, -64, Integer.MIN_VALUE}) {
            fails("words(0, " + things + ")", ARGUMENT, () -> y.words(0, things));
            fails("words(2, " + things + ")", INDEX, () -> y.words(2, things));
        }
        is("nothing changed", y.asks(0), 4);
        is("nor the other one", y.asks(1), 32);
        holds(19, "Powdered: SHADE that it was");
        BlushCourt z = told(TEN + " shade 99;witness skin 1 shame 1 shade 7");
        is("99", z.powder(0), 99);
        is("0", z.powder(0), 0);
        is("shade", z.witness(0, 3), 0);
        is("the other one", z.witness(1, 3), 7);
        changing();
    }

    private static void changing() {
        holds(14, "Two change PLACES: that of the first one then. IllegalArgumentException: both are one");
        BlushCourt x = told(times(5, TEN));
        is("the first and the last", x.change(0, 4), 4);
        is("the other one", x.witness(4, 4), 0);
        is("two who stand apart", x.change(1, 3), 3);
        is("back by the other one", x.change(3, 1), 3);
        is("stands", x.stands(1), 1);
        is("side by side", x.change(4, 1), 1);
        int[] due = {1, 4, 2, 3, 0};
        for (int place = 0; place < 5; place++) {
            is("stands(" + place + ")", x.stands(place), due[place]);
            is("place of " + due[place], x.witness(due[place], 4), place);
        }
        fails("one", ARGUMENT, () -> x.change(2, 2));
        fails("one that is none", INDEX, () -> x.change(5, 5));
        fails("the other one is none", INDEX, () -> x.change(0, 5));
        fails("the first one is none", INDEX, () -> x.change(-1, 0));
    }

    private static void logRows() {
        holds(54, "THE LOG: the latest 60 times that a WITNESS RISES by a QUESTION, above 0 (0, said by hand; 1, by a MOMENT), or blushes falsely (2)");
        BlushCourt x = told("witness skin 1 shame 0 drink 1;witness skin 1 shame 9;witness skin 1 shame 0 drink 2;"
                + "thing weight 1 touches ab so;thing weight 1 touches a so;ask b;ask a", "");
        is("by 0", x.say(0), 0);
        is("no row", x.count(9), 0);
        is("of two one rises", x.say(1), 2);
        is("one row", x.count(9), 1);
        is("of the one who rises", x.log(0, 1), 1);
        holds(54, "of one QUESTION by WITNESSES, the one of the greatest number the latest");
        BlushCourt y = told("witness skin 0 shame 1;witness skin 0 shame 2;witness skin 0 shame 3;thing weight 1 touches abc so;ask a;ask a;"
                + "moment 7;talk 100;false 100", "");
        y.change(0, 2);
        y.say(1);
        for (int ago = 0; ago < 3; ago++) {
            rowIs(y, ago, 7, 2 - ago, 0, 1, 3 - ago);
        }
        y.moments(1);
        int question = drawn(1, 2) % 2;
        for (int ago = 0; ago < 3; ago++) {
            rowIs(y, ago, 7, 2 - ago, 2, NONE, 20);
            rowIs(y, 3 + ago, 7, 2 - ago, 1, question, 3 - ago);
            rowIs(y, 6 + ago, 7, 2 - ago, 0, 1, 3 - ago);
        }
        is("rows", y.count(9), 9);
        holds(54, "THE LOG so many ago (0 the latest) what 0 MOMENT, 1 the WITNESS, 2 0 to 2, 3 the QUESTION (NONE), 4 by how much; - 2 without. "
                + "NoSuchElementException: another what");
        is("one more than there are", y.log(9, 0), -2);
        is("the greatest number", y.log(Integer.MAX_VALUE, 4), -2);
        is("below 0", y.log(-1, 3), -2);
        is("the least number", y.log(Integer.MIN_VALUE, 1), -2);
        is("of none", new BlushCourt().log(0, 0), -2);
        for (int ago : new int[] {0, 8, 9, -1}) {
            for (int what : new int[] {-1, 5, Integer.MIN_VALUE, Integer.MAX_VALUE}) {
                fails("log(" + ago + ", " + what + ")", ELEMENT, () -> y.log(ago, what));
            }
        }
        holds(54, "MOMENT, the WITNESS, 0 to 2, the QUESTION (none of 2), by how much (RISES, not cut; 20 of 2)");
        BlushCourt z = told("witness skin 9 shame 9 shade 99;witness skin 9 shame 9;thing weight 9 touches a so;ask a", times(11, "rise 99") + ";pass 99");
        z.say(0);
        is("RISES, not cut", z.log(1, 4), 90 + 11 * 99);
        is("RISES of the next one, not cut", z.log(0, 4), (90 + 11 * 99) * 99 / 100);
    }

    private static void rowIs(BlushCourt x, int ago, int... due) {
        for (int what = 0; what < 5; what++) {
            is("log(" + ago + ", " + what + ")", x.log(ago, what), due[what]);
        }
    }

    /** Each time it rises by one less, so that the rows can be told apart. */
    private static BlushCourt said(int times) {
        BlushCourt x = told("witness skin 9 shame 9;thing weight 9 touches a so;ask a");
        for (int i = 0; i < times; i++) {
            x.say(0);
            x.drink(0, 1);
        }
        return x;
    }

    private static void logOfSixty() {
        holds(54, "THE LOG: the latest 60 times");
        for (int times : new int[] {1, 59, 60, 61, 80}) {
            BlushCourt x = said(times);
            int rows = Math.min(60, times);
            is("rows of " + times, x.count(9), rows);
            is("led", x.led(0, false), rows);
            is("the latest", x.log(0, 4), 91 - times);
            is("the oldest", x.log(rows - 1, 4), 91 - times + rows - 1);
            is("one more", x.log(rows, 4), -2);
            is("60 ago", x.log(60, 4), -2);
        }
        holds(53, "LED: how many rows of THE LOG are of a WITNESS; the MOMENT of the latest (none)");
        BlushCourt y = told("witness skin 0 shame 2;witness skin 0 shame 9;thing weight 1 touches a so;thing weight 1 touches b so;ask a;ask b", "");
        is("none", y.led(0, false), 0);
        is("the moment of none", y.led(0, true), NONE);
        y.say(0);
        y.moments(3);
        y.say(0);
        y.moments(2);
        y.say(1);
        is("two", y.led(0, false), 2);
        is("the moment of the latest", y.led(0, true), 3);
        is("one", y.led(1, false), 1);
        is("the moment of it", y.led(1, true), 5);
        for (int i = 0; i < 58; i++) {
            y.say(1);
        }
        is("one is out of the log", y.led(0, false), 1);
        is("the moment of the one that is left", y.led(0, true), 3);
        y.say(1);
        is("both are out of the log", y.led(0, false), 0);
        is("no moment then", y.led(0, true), NONE);
        fails("led(2, true)", INDEX, () -> y.led(2, true));
        fails("led(-1, false)", INDEX, () -> y.led(-1, false));
    }
}
