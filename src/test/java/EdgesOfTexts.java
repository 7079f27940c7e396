import java.util.regex.Matcher;
import java.util.regex.Pattern;

/** The edges of the terms: how many there may be of each, the bounds of its numbers, and the texts of the court and of the law. */
public final class EdgesOfTexts extends CourtCheck {
    private static final String WITNESS = "witness skin 1 shame 1";
    private static final String THING = "thing weight 1";
    private static final String WOMAN = "woman sharp 1";

    public static void main(String[] args) {
        witnesses();
        places();
        things();
        questions();
        women();
        numbersOfTheCourt();
        texts();
        lines();
        optionalParts();
        letters();
        digits();
        wordsAndBlanks();
        emptyTexts();
        firstWrongBytes();
        moreMustCome();
        nothingStays();
        faults();
        tape();
        finish();
    }

    /** A text with # for a number: the least and the most that it may be are read back, one below and one above are wrong. */
    private static void bounds(String text, int least, int most, Look look) {
        int at = text.indexOf('#');
        String head = text.substring(0, at);
        String tail = text.substring(at + 1);
        for (int n : new int[] {least, least + 1, most - 1, most}) {
            BlushCourt x = told(head + n + tail);
            is(text + " of " + n, look.on(x), n);
            is("fault of " + text + " of " + n, x.fault(), NONE);
        }
        courtFault(head + "^" + (most + 1) + tail);
        courtFault(head + "^999" + (most < 999 ? "" : "9") + tail);
        courtFault(head + "^-1" + tail);
        if (least > 0) {
            courtFault(head + "^" + (least - 1) + tail);
        }
        String padded = ("00" + least).substring(("00" + least).length() - 3);
        is(text + " of " + padded, look.on(told(head + padded + tail)), least);
        courtFault(head + "^0" + padded + tail);
    }

    private static void witnesses() {
        holds(4, "WITNESSES (at most 5, numbered from 0 on)");
        BlushCourt x = told("witness skin 5 shame 1;witness skin 6 shame 1;witness skin 7 shame 1;witness skin 8 shame 1");
        court(x, "witness skin 9 shame 1");
        is("five of them", x.count(0), 5);
        for (int w = 0; w < 5; w++) {
            is("the numbers are from 0 on", x.witness(w, 0), 5 + w);
        }
        courtFault(x, "^" + WITNESS);
        courtFault(x, "heat 1 ; ^witness");
        is("five of them still", x.count(0), 5);
        courtFault(times(5, WITNESS));
        courtFault(times(5, WITNESS) + ";^" + WITNESS);
        courtFault(times(5, WITNESS) + " ; ^witness skin 99 shame x");

        holds(7, "SKIN 0 to 9, SHAME 0 to 9, DRINK 0 to 99 (0 at first), SHADE 0 to 99 (0 at first)");
        bounds("witness skin # shame 4", 0, 9, y -> y.witness(0, 0));
        bounds("witness skin 4 shame #", 0, 9, y -> y.witness(0, 1));
        bounds("witness skin 4 shame 4 drink #", 0, 99, y -> y.witness(0, 2));
        bounds("witness skin 4 shame 4 shade #", 0, 99, y -> y.witness(0, 3));
        bounds("witness skin 4 shame 4 drink 5 shade #", 0, 99, y -> y.witness(0, 3));
        BlushCourt z = told("witness skin 4 shame 4;witness skin 4 shame 4 drink 7;witness skin 4 shame 4 shade 8");
        is("drink at first", z.witness(0, 2), 0);
        is("shade at first", z.witness(0, 3), 0);
        is("shade at first of one with drink", z.witness(1, 3), 0);
        is("drink at first of one with shade", z.witness(2, 2), 0);
    }

    private static void places() {
        holds(11, "all stand in a row: PLACE 0 is that of the first one told, and on");
        BlushCourt x = told(times(3, WITNESS));
        for (int w = 0; w < 3; w++) {
            is("place of " + w, x.witness(w, 4), w);
            is("stands in " + w, x.stands(w), w);
        }
        fails("stands(3)", INDEX, () -> x.stands(3));
        x.change(0, 2);
        court(x, times(2, WITNESS));
        is("one told later stands behind all", x.witness(3, 4), 3);
        is("and the next one behind it", x.stands(4), 4);
        is("those who had changed stay so", x.stands(0), 2);
        is("those who had changed stay so", x.witness(0, 4), 2);
        fails("stands(5)", INDEX, () -> x.stands(5));
        fails("stands(-1)", INDEX, () -> x.stands(-1));
        fails("stands(0) of nobody", INDEX, () -> new BlushCourt().stands(0));
    }

    private static void things() {
        holds(4, "THINGS (at most 6, numbered from 0 on)");
        BlushCourt x = told("thing weight 2;thing weight 3;thing weight 4;thing weight 5;thing weight 6");
        court(x, "thing weight 7");
        is("six of them", x.count(1), 6);
        for (int t = 0; t < 6; t++) {
            is("the numbers are from 0 on", x.thing(t, 0), 2 + t);
        }
        courtFault(x, "^" + THING);
        courtFault(x, "heat 1;^thing");
        is("six of them still", x.count(1), 6);
        courtFault(times(6, THING));
        courtFault(times(6, THING) + ";^" + THING);

        holds(8, "SO or not (not at first), WEIGHT 1 to 9, TOUCHES some WITNESSES, as bits (none at first)");
        bounds("thing weight #", 1, 9, y -> y.thing(0, 0));
        bounds(WITNESS + ";thing weight # touches a so", 1, 9, y -> y.thing(0, 0));
        BlushCourt z = told(times(5, WITNESS) + ";thing weight 1;thing weight 1 so;thing weight 1 touches a;thing weight 1 touches abcde so;"
                + "thing weight 1 touches e");
        int[] so = {0, 1, 0, 1, 0};
        int[] touches = {0, 0, 1, 31, 16};
        for (int t = 0; t < 5; t++) {
            is("so of " + t, z.thing(t, 2), so[t]);
            is("touches of " + t, z.thing(t, 1), touches[t]);
        }
    }

    private static void questions() {
        holds(4, "QUESTIONS (at most 8, numbered from 0 on)");
        BlushCourt x = told(times(6, THING) + ";ask a;ask b;ask c;ask d;ask e;ask f;ask ab");
        court(x, "ask bc");
        is("eight of them", x.count(2), 8);
        int[] due = {1, 2, 4, 8, 16, 32, 3, 6};
        for (int q = 0; q < 8; q++) {
            is("the numbers are from 0 on", x.asks(q), due[q]);
        }
        courtFault(x, "^ask a");
        courtFault(x, "heat 1;^ask");
        is("eight of them still", x.count(2), 8);
        courtFault(THING + ";" + times(8, "ask a"));
        courtFault(THING + ";" + times(8, "ask a") + ";^ask a");

        holds(9, "each says some THINGS, as bits, one at least");
        is("one", told(THING + ";ask a").asks(0), 1);
        is("all", told(times(6, THING) + ";ask abcdef").asks(0), 63);
        courtFault(THING + ";ask^");
        courtFault(THING + ";ask ^;ask a");
        courtFault(THING + ";ask ^so");
    }

    private static void women() {
        holds(4, "WOMEN (at most 4, numbered from 0 on): SHARP 1 to 20");
        BlushCourt x = told("woman sharp 1;woman sharp 7;woman sharp 13");
        court(x, "woman sharp 20");
        is("four of them", x.count(3), 4);
        for (int woman = 0; woman < 3; woman++) {
            is("the numbers are from 0 on", x.sharp(woman), 1 + 6 * woman);
        }
        is("the last one", x.sharp(3), 20);
        courtFault(x, "^" + WOMAN);
        courtFault(x, "heat 1;^woman");
        is("four of them still", x.count(3), 4);
        courtFault(times(4, WOMAN));
        courtFault(times(4, WOMAN) + ";^" + WOMAN);
        holds(10, "SHARP of a woman");
        bounds("woman sharp #", 1, 20, y -> y.sharp(0));
        bounds("woman sharp 3;woman sharp #", 1, 20, y -> y.sharp(1));
        fails("sharp(4)", INDEX, () -> x.sharp(4));
        fails("sharp(-1)", INDEX, () -> x.sharp(-1));
        fails("sharp(0) of none", INDEX, () -> new BlushCourt().sharp(0));
    }

    /** How many of a hundred draws, one of each number modulo 100, are below TALK: a question is said by so many. */
    private static long talkOf(BlushCourt x) {
        long said = 0;
        for (int modulo = 0; modulo < 100; modulo++) {
            x.seed(seedOf(1, modulo));
            said += x.moments(1);
        }
        return said;
    }

    private static void numbersOfTheCourt() {
        holds(16, "HEAT 0 to 9 (3 at first)");
        bounds("heat #", 0, 9, y -> y.count(7));
        is("heat at first", new BlushCourt().count(7), 3);
        holds(45, "FALSE 0 to 100 (0 at first)");
        bounds("false #", 0, 100, y -> y.odds(1, 1) / 100);
        is("false at first", new BlushCourt().odds(1, 1), 0);
        holds(12, "TALK 0 to 100 (0 at first)");
        bounds(THING + ";ask a;talk #", 0, 100, y -> talkOf(y));
        is("talk at first", talkOf(told(THING + ";ask a")), 0);
        holds(59, "MOMENT 0 to 9999 (0 at first)");
        is("moment at first", new BlushCourt().count(6), 0);
        holds(4, "shade, drink 0 to 99; moment 0 to 999");
        bounds("moment #", 0, 999, y -> y.count(6));
        BlushCourt x = told("heat 5;heat 6;false 7;false 8;moment 9;moment 10;" + THING + ";ask a;talk 3;talk 4");
        is("of two the later one", x.count(7), 6);
        is("of two the later one", x.odds(1, 1), 800);
        is("of two the later one", x.count(6), 10);
        is("of two the later one", talkOf(x), 4);
    }

    private static void texts() {
        holds(4, "THE COURT is told in texts (at most 12, one behind another)");
        BlushCourt x = new BlushCourt();
        for (int n = 1; n <= 12; n++) {
            courtFault(x, "heat ^10");
            is("text " + n, court(x, n % 3 == 0 ? "" : "heat " + n % 10), n);
            is("texts", x.count(4), n);
        }
        feed(x, "heat 9");
        fails("a 13th one", UNSUPPORTED, () -> x.court());
        is("a text that was read and is not wrong", x.fault(), NONE);
        feed(x, "");
        fails("a 13th one that is empty", UNSUPPORTED, () -> x.court());
        courtFault(x, "heat ^10");
        feed(x, "heat 9");
        fails("a 13th one again", UNSUPPORTED, () -> x.court());
        is("fault of what was read last", x.fault(), NONE);
        is("texts", x.count(4), 12);
        is("heat", x.count(7), 1);
        is("a law is no text of the court", law(x, "fall 1"), 1);
    }

    private static void lines() {
        holds(4, "LINE { ; LINE }, at most 14");
        BlushCourt x = told(times(14, "heat 4"));
        courtFault(x, times(13, "moment 4") + ";heat 8");
        is("the 14th line", x.count(7), 8);
        courtFault(x, times(14, "moment 4") + ";^heat 5");
        courtFault(x, times(14, "moment 4") + " ;  ^5");
        courtFault(x, times(14, "moment 4") + " ;  ^");
        courtFault(x, times(14, "moment 4") + " ^moment 4");
        courtFault(x, times(13, "moment 4") + ";^blush;heat 5");

        holds(5, "THE LAW (a text, in place of the one before): LINE { ; LINE }, at most 12");
        BlushCourt y = told(WITNESS);
        is("twelve", law(y, times(12, "fall 2")), 12);
        is("all twelve count", y.witness(0, 5), 7 + 24);
        lawFault(y, times(12, "fall 3") + ";^fall 3");
        lawFault(y, times(12, "fall 3") + ";^");
        is("the law before stays", y.witness(0, 5), 7 + 24);
        is("lines of it", y.count(5), 12);
        is("one", law(y, "fall 5"), 1);
        is("in place of the one before", y.witness(0, 5), 7 + 5);
        law(y, "fall 5 if red;fall 6 if red and not red");
        is("lines that do not hold", y.witness(0, 5), 7);
        law(y, "fall 5;fall 6");
        is("lines without if, behind lines with it", y.witness(0, 5), 7 + 11);
        is("none", law(y, ""), 0);
        is("in place of the one before", y.witness(0, 5), 7);
    }

    private static void optionalParts() {
        holds(4, "witness skin N shame N [ drink N ] [ shade N ]");
        courtFault("witness skin 1 shame 1");
        courtFault("witness skin 1 shame 1 drink 1");
        courtFault("witness skin 1 shame 1 shade 1");
        courtFault("witness skin 1 shame 1 drink 1 shade 1");
        courtFault("witness ^shame 1 skin 1");
        courtFault("witness skin 1 ^drink 1");
        courtFault("witness skin 1 shame 1 shade 1 ^drink 1");
        courtFault("witness skin 1 shame 1 drink 1 ^drink 1");
        courtFault("witness skin 1 shame 1 shade 1 ^shade 1");
        courtFault("witness skin 1 shame 1 drink 1 shade 1 ^shade 1");
        courtFault("witness skin 1 shame 1 drink 1 ^so");
        holds(4, "thing weight N [ touches T ] [ so ]");
        courtFault(WITNESS + ";thing weight 1");
        courtFault(WITNESS + ";thing weight 1 touches a");
        courtFault(WITNESS + ";thing weight 1 so");
        courtFault(WITNESS + ";thing weight 1 touches a so");
        courtFault(WITNESS + ";thing ^touches a");
        courtFault(WITNESS + ";thing ^so");
        courtFault(WITNESS + ";thing weight 1 so ^touches a");
        courtFault(WITNESS + ";thing weight 1 so ^so");
        courtFault(WITNESS + ";thing weight 1 touches a ^touches a");
        courtFault(WITNESS + ";thing weight 1 ^weight 1");
        holds(4, "ask T | woman sharp N | heat N | false N | talk N | moment N");
        courtFault("thing weight 1;ask a");
        courtFault("thing weight 1;ask^");
        courtFault("thing weight 1;ask ^;ask a");
        courtFault("thing weight 1;ask a ^so");
        courtFault("woman sharp 1");
        courtFault("woman ^1");
        courtFault("woman sharp ^so");
        courtFault("woman sharp 1 ^sharp 1");
        for (String word : new String[] {"heat", "false", "talk", "moment"}) {
            courtFault(word + " 1");
            courtFault(word + "^");
            courtFault(word + " ^so");
            courtFault(word + " ^;heat 1");
            courtFault(word + " 1 ^2");
            courtFault(word + " 1 ^" + word + " 1");
        }
        holds(5, "rise N [ if C ] | fall N [ if C ] | pass N [ if C ]");
        for (String kind : new String[] {"rise", "fall", "pass"}) {
            lawFault(kind + " 0");
            lawFault(kind + " 99 if red");
            lawFault(kind + " 1 ^red");
            lawFault(kind + " 1 if red ^if red");
            lawFault(kind + " ^if red");
            lawFault(kind + "^");
        }
        lawFault("^heat 5");
        courtFault("^rise 5");
    }

    private static void letters() {
        holds(4, "T: letters, none twice, a for the number 0, b for 1, and on: of touches of WITNESSES, of ask of THINGS that there are by then");
        String five = times(5, WITNESS) + ";thing weight 1 touches ";
        is("all of them", told(five + "abcde").thing(0, 1), 31);
        is("in any order", told(five + "eca").thing(0, 1), 21);
        is("the last one", told(five + "e").thing(0, 1), 16);
        courtFault(five + "^f");
        courtFault(five + "^abcdef");
        courtFault(five + "^aa");
        courtFault(five + "^abcdea");
        courtFault(five + "^z");
        courtFault(five + "^A");
        courtFault(five + "a^B");
        courtFault(five + "a ^b");
        courtFault(five + "a^,b");
        courtFault("thing weight 1 touches ^a;" + WITNESS);
        courtFault(WITNESS + ";thing weight 1 touches ^b;" + WITNESS);
        String six = times(6, THING) + ";ask ";
        is("all of them", told(six + "fedcba").asks(0), 63);
        is("the last one", told(six + "f").asks(0), 32);
        courtFault(six + "^g");
        courtFault(six + "^abcdefg");
        courtFault(six + "^abcdeff");
        courtFault("ask ^a;" + THING);
        courtFault(THING + ";ask ^b;" + THING);
        BlushCourt x = told(WITNESS + ";" + THING);
        courtFault(x, "ask a;thing weight 1 touches a");
        courtFault(x, WITNESS + ";" + THING + " touches ab;ask abc");
        is("those of texts before", x.thing(2, 1), 3);
        is("those of texts before", x.asks(1), 7);
    }

    private static void digits() {
        holds(4, "Numbers are of 1 to 3 digits");
        is("one digit", told("moment 7").count(6), 7);
        is("two digits", told("moment 70").count(6), 70);
        is("three digits", told("moment 700").count(6), 700);
        is("three digits that begin with 0", told("moment 007").count(6), 7);
        courtFault("moment ^0007");
        courtFault("moment ^7000");
        courtFault("moment ^99999999999999999999");
        courtFault("moment^");
        courtFault("moment 7 ^7");
        courtFault("heat ^010");
        holds(5, "All numbers are of 1 to 3 digits (N 0 to 99)");
        String one = "witness skin 1 shame 0;thing weight 1 touches a so;ask a";
        for (int n : new int[] {0, 1, 98, 99}) {
            is("rise " + n, told(one, "rise " + n).rises(0, 0), 1 + n);
            is("fall " + n, told(one, "fall " + n).witness(0, 5), 7 + n);
            is("pass " + n, told("witness skin 9 shame 9;witness skin 1 shame 1;thing weight 9 touches a so;ask a", "rise 10;pass " + n)
                    .rises(0, 1), n);
        }
        for (String kind : new String[] {"rise", "fall", "pass"}) {
            lawFault(kind + " 099");
            lawFault(kind + " 000");
            lawFault(kind + " ^100");
            lawFault(kind + " ^0099");
            lawFault(kind + " ^-1");
        }
        lawFault("rise 5 if 0 < 999");
        lawFault("rise 5 if 000 < 00");
        lawFault("rise 5 if ^1000 < 5");
        lawFault("rise 5 if 5 > ^1000");
        lawFault("rise 5 if 5 + ^0001 > 1");
    }

    private static void wordsAndBlanks() {
        holds(4, "Words are as long as a to z go on; between all there may be blanks (32), also ahead and behind");
        BlushCourt x = told("  witness  skin 1shame 2drink3shade   4;thing weight5touches a so ;ask   a;woman sharp6 ; heat 7  ");
        is("skin", x.witness(0, 0), 1);
        is("shame", x.witness(0, 1), 2);
        is("drink", x.witness(0, 2), 3);
        is("shade", x.witness(0, 3), 4);
        is("weight", x.thing(0, 0), 5);
        is("so", x.thing(0, 2), 1);
        is("asks", x.asks(0), 1);
        is("sharp", x.sharp(0), 6);
        is("heat", x.count(7), 7);
        otherLetters();
        courtFault("^heatx 5");
        courtFault("^heatz 5");
        courtFault("^heata 5");
        courtFault("^xheat 5");
        courtFault("^hea t 5");
        courtFault("heat 1 ^2");
        courtFault("^witnessskin 1 shame 1");
        courtFault("^askthing");
        courtFault(WITNESS + ";thing weight 1 touches ^aso");
        courtFault(WITNESS + ";thing weight 1 ^touchesa");
        courtFault("heat 5^heat 5");
        courtFault("^Heat 5");
        courtFault("^HEAT 5");
        courtFault("heat^\t5");
        courtFault("^\nheat 5");
        courtFault("heat 5^\n");
        courtFault("heat 5^\0");
        courtFault("^\u00ff");
        courtFault("heat^\u00a05");
        courtFault("heat 5;^;heat 5");
        courtFault("heat 5^,heat 5");
        courtFault("^`heat 5");
        courtFault("^{heat 5");
        courtFault("heat ^/5");
        courtFault("heat ^:5");
        lawFault("  rise5if(edge)and not(red)or heat<3+skin;fall 6  ");
        lawFault("rise 5 if ^notedge");
        lawFault("rise 5 if not ^notred");
        lawFault("rise 5 if edge ^andred");
        lawFault("rise 5 if ^edgeor red");
        lawFault("rise 5 ^ifedge");
        lawFault("rise 5 if ^edged");
        lawFault("rise 5 if heat < ^=3");
        lawFault("rise 5 if heat <^< 3");
        lawFault("rise 5 if heat +^+ 3 < 4");
    }

    /** Every word with one letter changed, dropped or doubled is none. */
    private static void otherLetters() {
        String court = "witness skin 1 shame 1 drink 1 shade 1;thing weight 1 touches a so;ask a;woman sharp 1;heat 1;false 1;talk 1;moment 1";
        courtFault(court);
        spoil(court, "witness skin shame drink shade thing weight touches so ask woman sharp heat false talk moment", true);
        String law = "rise 1 if witness<1 and skin<1 or shame<1;fall 1 if not drink<1 and shade<1 or heat<1;"
                + "pass 1 if weight<1 or place<1 or touched or red or edge";
        lawFault(law);
        spoil(law, "rise if witness and skin or shame fall not drink shade heat pass weight place touched red edge", false);
    }

    private static void spoil(String text, String words, boolean ofCourt) {
        for (String word : words.split(" ")) {
            Matcher found = Pattern.compile("\\b" + word + "\\b").matcher(text);
            is(word + " stands in the text", found.find(), true);
            int at = found.start();
            for (int i = 0; i < word.length(); i++) {
                char other = word.charAt(i) == 'q' ? 'x' : 'q';
                String[] spoiled = {word.substring(0, i) + other + word.substring(i + 1), word.substring(0, i) + word.substring(i + 1),
                    word.substring(0, i) + word.charAt(i) + word.substring(i)};
                for (String bad : spoiled) {
                    String marked = text.substring(0, at) + "^" + bad + text.substring(at + word.length());
                    if (ofCourt) {
                        courtFault(marked);
                    } else {
                        lawFault(marked);
                    }
                }
            }
        }
    }

    private static void emptyTexts() {
        holds(4, "A text that is empty, or blanks alone, has no LINE");
        BlushCourt x = new BlushCourt();
        is("an empty text", court(x, ""), 1);
        is("a blank", court(x, " "), 2);
        is("blanks as many as the tape has", court(x, " ".repeat(400)), 3);
        is("no fault", x.fault(), NONE);
        courtFault(x, "^;");
        courtFault(x, " ^;");
        holds(5, "how many LINES");
        is("an empty law", law(x, ""), 0);
        is("lines", x.count(5), 0);
        is("a blank", law(x, " "), 0);
        is("blanks as many as the tape has", law(x, " ".repeat(400)), 0);
        is("no fault", x.fault(), NONE);
        lawFault(x, "^;");
    }

    private static void firstWrongBytes() {
        holds(6, "The first wrong byte: the begin of the first thing that cannot stand there");
        courtFault("heat 5;heat 5 ^heat 5;heat 10");
        courtFault("heat ^10;heat 11");
        courtFault("^;heat 10");
        lawFault("rise 5;rise ^100;rise 101");
        lawFault("rise 5 if edge^) or (red");
        lawFault("rise 5 if (heat^) < 3");
        lawFault("rise 5 if red ^< 3");
        lawFault("rise 5 if red ^+ 1 < 3");
        lawFault("rise 5 if heat < 3 ^< 4");
        lawFault("rise 5 if heat ^and red");
        lawFault("rise 5 if heat < ^red");
        lawFault("rise 5 if ^and red");
        lawFault("rise 5 if (^)");
        holds(6, "a number of more digits, or out of its bounds, or that tells none that can be; letters that are none such; a word that is none");
        courtFault("heat ^0001");
        courtFault("heat ^10");
        courtFault("thing weight ^0");
        courtFault("woman sharp ^21");
        courtFault(THING + ";ask ^ab");
        courtFault(THING + ";ask ^b");
        courtFault("^blush");
        courtFault("witness ^skim 1 shame 1");
        lawFault("^tax 5");
        lawFault("rise 5 if ^blue");
        holds(5, "( and not within one another at most 6 deep");
        BlushCourt deep = told(WITNESS + " shade 50", "fall 5 if not(not(not(red)))");
        is("six deep, it does not hold", deep.witness(0, 5), 7);
        law(deep, "fall 5 if not not not not not not red");
        is("six deep, it holds", deep.witness(0, 5), 12);
        law(deep, "fall 5 if ((((((red))))))");
        is("six deep, it holds", deep.witness(0, 5), 12);
        holds(6, "the ( or not that is a 7th one deep");
        lawFault("rise 5 if ((((((red))))))");
        lawFault("rise 5 if ((((((^(red)))))))");
        lawFault("rise 5 if not not not not not not red");
        lawFault("rise 5 if not not not not not not ^not red");
        lawFault("rise 5 if not(not(not(red)))");
        lawFault("rise 5 if not(not(not(^not red)))");
        lawFault("rise 5 if not not not not not not ^(red)");
        lawFault("rise 5 if ((((((^not red))))))");
        lawFault("rise 5 if ((((((red))))))and((((((red or red))))))or not not not not not not red");
        lawFault("rise 5 if ((((((red)and red)and red)or red)))and((((((red))))))");
        lawFault("rise 5 if (((((red)and(red)))or((red and((^(red)");
        lawFault("rise 5 if ((((((red))))));fall 5 if ((((((red))))))");
        holds(6, "of a LINE, a WITNESS, a THING, a QUESTION, a woman too many, the first word");
        courtFault(times(14, "heat 1") + ";  ^heat 10");
        courtFault(times(5, WITNESS) + ";  ^witness skin 10");
        courtFault(times(6, THING) + ";  ^thing weight 10");
        courtFault(THING + ";" + times(8, "ask a") + ";  ^ask b");
        courtFault(times(4, WOMAN) + ";  ^woman sharp 21");
        lawFault(times(12, "rise 1") + ";  ^rise 100");
    }

    private static void moreMustCome() {
        holds(6, "or the text's length, if more must come");
        String[] courts = {"witness", "witness skin", "witness skin 1", "witness skin 1 shame", WITNESS + " drink", WITNESS + " shade",
            WITNESS + " drink 4 shade", "thing", "thing weight", THING + " touches", "ask", "woman", "woman sharp", "heat", "false", "talk",
            "moment", "heat 5;"};
        for (String text : courts) {
            courtFault(text + "^");
            courtFault(text + "   ^");
        }
        String[] laws = {"rise", "fall", "pass", "rise 5 if", "rise 5 if not", "rise 5 if (", "rise 5 if (red", "rise 5 if red and",
            "rise 5 if red or", "rise 5 if heat", "rise 5 if heat +", "rise 5 if heat + 3", "rise 5 if heat <", "rise 5 if heat > 3 +",
            "rise 5;"};
        for (String text : laws) {
            lawFault(text + "^");
            lawFault(text + "   ^");
        }
        String full = "heat 5;" + " ".repeat(393);
        is("as long as the tape is", full.length(), 400);
        courtFault(full + "^");
        courtFault(" ".repeat(399) + "^x");
        courtFault(" ".repeat(394) + "heat 5");
        courtFault(" ".repeat(395) + "heat ^");
        lawFault(" ".repeat(394) + "rise 5");
        lawFault(" ".repeat(394) + "rise5;^");
    }

    private static void nothingStays() {
        holds(4, "Of a wrong text nothing stays");
        String fixture = "witness skin 1 shame 1 shade 5;thing weight 1 touches a;ask a;woman sharp 5;heat 4;false 30;talk 60;moment 5";
        String[] added = {WITNESS + " drink 1 shade 60", "thing weight 9 touches a so", "ask a", WOMAN, "heat 9", "false 99", "talk 99",
            "moment 900", ""};
        for (String line : added) {
            BlushCourt x = told(fixture, "fall 2;pass 30");
            x.say(0);
            x.drink(0, 1);
            String was = scene(x);
            courtFault(x, line + (line.isEmpty() ? "" : ";") + "^blush");
            same("scene behind " + line, scene(x), was);
            is("acts are remembered still", x.count(10), 2);
        }
        holds(5, "Of a wrong text nothing stays");
        BlushCourt y = told(fixture, "fall 2;pass 30");
        String was = scene(y);
        lawFault(y, "fall 5;pass 3;rise 9;^blush");
        same("scene behind a wrong law", scene(y), was);
        BlushCourt z = told(fixture);
        lawFault(z, "fall 5;^");
        is("no law yet", z.count(5), NONE);
    }

    private static void faults() {
        holds(6, "The first wrong byte of the latest text that was read; NONE without one, and ahead of any");
        BlushCourt x = new BlushCourt();
        is("ahead of any", x.fault(), NONE);
        courtFault(x, "heat ^10");
        lawFault(x, "^ris");
        lawFault(x, "rise^");
        courtFault(x, "heat 5");
        courtFault(x, "heat ^10");
        lawFault(x, "rise 5");
        lawFault(x, "rise ^x");
        feed(x, 0, 0, 0, 0);
        fails("fits, which is no text", ARGUMENT, () -> x.fits());
        is("fault of the latest text", x.fault(), 5);
        feed(x);
        is("wrong, which is no text", x.wrong(), 0);
        x.heat(5);
        x.image();
        x.undo();
        x.back();
        is("fault of the latest text", x.fault(), 5);
        is("and again", x.fault(), 5);
    }

    private static void tape() {
        holds(2, "Twenty bytes come behind the TAPE, of each number the highest first: how many it has; NONE, and none come, if it would have more than 400");
        BlushCourt x = new BlushCourt();
        for (int n = 1; n <= 19; n++) {
            is("feed", x.feed(0x20202020, 0x20202020, 0x20202020, 0x20202020, 0x20202020), 20 * n);
        }
        is("to 400", x.feed(0x20206865, 0x61742038, 0x20202020, 0x20202020, 0x20202020), 400);
        is("to 420", x.feed(0, 0, 0, 0, 0), NONE);
        is("none came", x.end(401), false);
        is("400 are there", x.end(400), true);
        is("court", x.court(), 1);
        is("of each number the highest first", x.count(7), 8);
        for (int n = 1; n <= 20; n++) {
            is("feed", x.feed(-1, Integer.MIN_VALUE, Integer.MAX_VALUE, 0, 1), 20 * n);
        }
        is("end(381)", x.end(381), true);
        is("to 401", x.feed(0, 0, 0, 0, 0), NONE);
        is("none came", x.end(382), false);
        is("end(380)", x.end(380), true);
        is("to 400", x.feed(0, 0, 0, 0, 0), 400);

        holds(3, "The TAPE has its first n bytes alone: true; false, and nothing happens, if it has fewer, or n is below 0");
        BlushCourt y = new BlushCourt();
        is("end(0) of an empty tape", y.end(0), true);
        is("end(1) of an empty tape", y.end(1), false);
        y.feed(0x68656174, 0x20352020, 0x39202020, 0x20202020, 0x20202020);
        is("end(-1)", y.end(-1), false);
        is("end of the least number", y.end(Integer.MIN_VALUE), false);
        is("end of the greatest number", y.end(Integer.MAX_VALUE), false);
        is("end(21)", y.end(21), false);
        is("nothing happened", y.end(20), true);
        is("end(7)", y.end(7), true);
        is("end(8)", y.end(8), false);
        is("court of its first bytes alone", y.court(), 1);
        is("heat", y.count(7), 5);
        is("the tape is used up", y.end(1), false);
    }
}
