import java.util.Arrays;
import java.util.NoSuchElementException;

/** A court in which a blush is an answer; the document's promises are told by number in README.md. */
public final class BlushCourt {
    public static final int NONE = -1;

    private static final int MOST_WITNESSES = 5;
    private static final int MOST_THINGS = 6;
    private static final int MOST_QUESTIONS = 8;
    private static final int MOST_WOMEN = 4;
    private static final int MOST_WORLDS = 64;
    private static final int MOST_TEXTS = 12;
    private static final int MOST_COURT_LINES = 14;
    private static final int MOST_LAW_LINES = 12;
    private static final int MOST_BYTES = 400;
    private static final int MOST_LOGGED = 60;
    private static final int MOST_ACTS = 12;
    private static final int MOST_AHEAD = 60;
    private static final int MOST_BYTES_TOLD = 45;
    private static final int MOST_ODDS = 5;
    private static final int LAST_MOMENT = 9999;
    private static final int TOP = 99;
    private static final int RED = 50;
    private static final int FALSE_BLUSH = 20;
    private static final int DEEPEST = 6;

    private static final int BY_HAND = 0;
    private static final int BY_MOMENT = 1;
    private static final int FALSELY = 2;

    private final Tape tape = new Tape();
    private final Law draftLaw = new Law();
    private final Law keptLaw = new Law();
    private final Court now = new Court();
    private final Court scratch = new Court();
    private final Court kept = new Court();
    private final History history = new History();
    private final Blush blush = new Blush();
    private final Worlds worlds = new Worlds();
    private final Apart parting = new Apart();
    private final Couples pairing = new Couples();
    private int wrongByte = NONE;
    private boolean imaged = false;

    public BlushCourt() {
    }

    public int feed(int a, int b, int c, int d, int e) {
        if (tape.size + 20 > MOST_BYTES) {
            return NONE;
        }
        tape.add(a);
        tape.add(b);
        tape.add(c);
        tape.add(d);
        tape.add(e);
        return tape.size;
    }

    public boolean end(int n) {
        if (n < 0 || n > tape.size) {
            return false;
        }
        tape.size = n;
        return true;
    }

    public int court() throws IllegalArgumentException, UnsupportedOperationException {
        scratch.copy(now);
        wrongByte = CourtText.read(tape, scratch) ? NONE : tape.begin;
        tape.useUp();
        if (wrongByte != NONE) {
            throw new IllegalArgumentException("the text is wrong");
        }
        if (now.texts >= MOST_TEXTS) {
            throw new UnsupportedOperationException("there are as many texts as there may be");
        }
        now.copy(scratch);
        now.texts++;
        history.forget();
        return now.texts;
    }

    public int law() throws IllegalArgumentException {
        wrongByte = draftLaw.read(tape) ? NONE : tape.begin;
        tape.useUp();
        if (wrongByte != NONE) {
            throw new IllegalArgumentException("the text is wrong");
        }
        blush.law.copy(draftLaw);
        history.forget();
        return blush.law.lines;
    }

    public int fault() {
        return wrongByte;
    }

    public int witness(int witness, int what) throws IndexOutOfBoundsException, NoSuchElementException {
        needWitness(witness);
        Row row = now.row;
        switch (what) {
            case 0: return row.skin[witness];
            case 1: return row.shame[witness];
            case 2: return row.drink[witness];
            case 3: return row.shade[witness];
            case 4: return row.place[witness];
            case 5: return blush.fallsBy(now, witness);
            case 6: return shareOf(witness);
            case 7: return now.touching(witness);
            case 8: return foundOut(witness);
            default: throw new NoSuchElementException("nothing else is known of a witness");
        }
    }

    public int thing(int thing, int what) throws IndexOutOfBoundsException, NoSuchElementException {
        needThing(thing);
        switch (what) {
            case 0: return now.weight[thing];
            case 1: return now.touches[thing];
            case 2: return now.so >> thing & 1;
            case 3: return now.leaning(thing);
            case 4: return worlds.knownBy(blush, now, thing);
            default: throw new NoSuchElementException("nothing else is known of a thing");
        }
    }

    public int asks(int question) throws IndexOutOfBoundsException {
        needQuestion(question);
        return now.asks[question];
    }

    public int sharp(int woman) throws IndexOutOfBoundsException {
        needWoman(woman);
        return now.sharp[woman];
    }

    public int stands(int place) throws IndexOutOfBoundsException {
        needPlace(place);
        return now.row.standing[place];
    }

    public int moments(int n) throws IllegalArgumentException {
        if (n < 1 || n > MOST_AHEAD) {
            throw new IllegalArgumentException("no such number of moments");
        }
        history.remember(now);
        return blush.live(now, n);
    }

    public int say(int question) throws IndexOutOfBoundsException {
        needQuestion(question);
        history.remember(now);
        return blush.utter(now, question, BY_HAND);
    }

    public int change(int witness, int other) throws IndexOutOfBoundsException, IllegalArgumentException {
        needTwo(witness, other);
        history.remember(now);
        now.row.swap(witness, other);
        return now.row.place[witness];
    }

    public int drink(int witness, int n) throws IndexOutOfBoundsException, IllegalArgumentException {
        needWitness(witness);
        if (n < 1 || n > TOP) {
            throw new IllegalArgumentException("no such drink");
        }
        history.remember(now);
        now.row.drink[witness] = Math.min(TOP, now.row.drink[witness] + n);
        return now.row.drink[witness];
    }

    public int heat(int n) throws IllegalArgumentException {
        if (n < 0 || n > 9) {
            throw new IllegalArgumentException("no such heat");
        }
        history.remember(now);
        int was = now.heat;
        now.heat = n;
        return was;
    }

    public boolean tell(int thing, boolean is) throws IndexOutOfBoundsException {
        needThing(thing);
        history.remember(now);
        int was = now.so;
        now.so = is ? was | 1 << thing : was & ~(1 << thing);
        return now.so != was;
    }

    public int words(int question, int things) throws IndexOutOfBoundsException, IllegalArgumentException {
        needQuestion(question);
        int said = things & now.allThings();
        if (said == 0) {
            throw new IllegalArgumentException("a question says one thing at least");
        }
        history.remember(now);
        int was = now.asks[question];
        now.asks[question] = said;
        return was;
    }

    public int powder(int witness) throws IndexOutOfBoundsException {
        needWitness(witness);
        history.remember(now);
        int was = now.row.shade[witness];
        now.row.shade[witness] = 0;
        return was;
    }

    public int rises(int question, int witness) throws IndexOutOfBoundsException {
        needQuestion(question);
        needWitness(witness);
        blush.raise(now, question, now.so);
        return blush.risen[witness];
    }

    public int seen(int question, int woman) throws IndexOutOfBoundsException {
        needQuestion(question);
        needWoman(woman);
        blush.raise(now, question, now.so);
        int bits = 0;
        for (int w = 0; w < now.row.count; w++) {
            if (blush.isSeen(now, woman, w)) {
                bits |= 1 << w;
            }
        }
        return bits;
    }

    public int gives(int question) throws IndexOutOfBoundsException {
        needQuestion(question);
        blush.raise(now, question, now.so);
        int bits = 0;
        for (int w = 0; w < now.row.count; w++) {
            if (blush.givesAway(w)) {
                bits |= 1 << w;
            }
        }
        return bits;
    }

    public int writes(int woman, int witness) throws IndexOutOfBoundsException {
        needWoman(woman);
        needWitness(witness);
        return readBy(now.sharp[woman], now.row.shade[witness]);
    }

    public int pale() {
        scratch.copy(now);
        for (int n = 0; n <= MOST_AHEAD; n++) {
            if (scratch.row.allShades() == 0) {
                return n;
            }
            blush.fall(scratch);
        }
        return NONE;
    }

    public int reddest() {
        int[] shade = now.row.shade;
        int best = NONE;
        for (int w = 0; w < now.row.count; w++) {
            if (best == NONE || shade[w] > shade[best]) {
                best = w;
            }
        }
        return best;
    }

    public int palest() {
        int[] shade = now.row.shade;
        int best = NONE;
        for (int w = 0; w < now.row.count; w++) {
            if (best == NONE || shade[w] < shade[best]) {
                best = w;
            }
        }
        return best;
    }

    public int fits() throws IllegalArgumentException {
        return Long.bitCount(fittingWorlds());
    }

    public int sure() throws IllegalArgumentException {
        long fitting = fittingWorlds();
        int sure = fitting == 0 ? 0 : now.allThings();
        for (int world = 0; world < now.worldCount(); world++) {
            if ((fitting >>> world & 1L) != 0) {
                sure &= world;
            }
        }
        return sure;
    }

    public int never() throws IllegalArgumentException {
        long fitting = fittingWorlds();
        int never = now.allThings();
        for (int world = 0; world < now.worldCount(); world++) {
            if ((fitting >>> world & 1L) != 0) {
                never &= ~world;
            }
        }
        return never;
    }

    public int next() throws IllegalArgumentException {
        long fitting = fittingWorlds();
        if (Long.bitCount(fitting) < 2) {
            return NONE;
        }
        int best = NONE;
        int least = 0;
        for (int q = 0; q < now.questions; q++) {
            int greatest = worlds.greatestPart(blush, now, q, fitting);
            if (best == NONE || greatest < least) {
                best = q;
                least = greatest;
            }
        }
        return best;
    }

    public int dark() {
        return worlds.hidden(blush, now);
    }

    public int tells(int question) throws IndexOutOfBoundsException {
        needQuestion(question);
        return worlds.partsOf(blush, now, question);
    }

    public int shared(int question) throws IndexOutOfBoundsException {
        needQuestion(question);
        return Apart.sharedIn(now.row.standing, now.row.count, touchedBy(question));
    }

    public int apart(int question) throws IndexOutOfBoundsException {
        needQuestion(question);
        parting.search(now.row, touchedBy(question));
        return parting.fewestChanges;
    }

    public int row(int question, int place) throws IndexOutOfBoundsException {
        needQuestion(question);
        needPlace(place);
        parting.search(now.row, touchedBy(question));
        return parting.best[place];
    }

    public int wrong() throws IllegalArgumentException {
        int rows = needRows(tape.useUp(), now.women, now.row.count, TOP);
        int best = (1 << now.women) - 1;
        for (int left = 0; left < 1 << now.women; left++) {
            if (Integer.bitCount(left) < Integer.bitCount(best) && allMayBe(rows, left)) {
                best = left;
            }
        }
        return best;
    }

    public int shades(int witness) throws IndexOutOfBoundsException, IllegalArgumentException {
        int size = tape.useUp();
        needWitness(witness);
        return shadesLeft(needRows(size, now.women, now.row.count, TOP), witness, 0);
    }

    public int vinegar(int witness, int question) throws IndexOutOfBoundsException {
        needWitness(witness);
        needQuestion(question);
        blush.raise(now, question, now.so);
        int fromOthers = blush.risen[witness] - blush.own[witness];
        scratch.copy(now);
        for (int drink = 0; drink <= TOP; drink++) {
            scratch.row.drink[witness] = drink;
            blush.risen[witness] = fromOthers + blush.ownOf(scratch, witness);
            if (!blush.isFoundOut(scratch, witness)) {
                return drink;
            }
        }
        return NONE;
    }

    public boolean betrays(int witness, int other) throws IndexOutOfBoundsException, IllegalArgumentException {
        needTwo(witness, other);
        for (int q = 0; q < now.questions; q++) {
            blush.raise(now, q, now.so);
            if (blush.weight[witness] > 0 && blush.givesAway(other)) {
                return true;
            }
        }
        return false;
    }

    public int heats() {
        scratch.copy(now);
        int best = 0;
        int most = NONE;
        for (int heat = 0; heat <= 9; heat++) {
            scratch.heat = heat;
            int paled = blush.wouldBePale(scratch);
            if (paled > most) {
                best = heat;
                most = paled;
            }
        }
        return best;
    }

    public int couples(int woman) throws IndexOutOfBoundsException {
        if (woman != NONE) {
            needWoman(woman);
        }
        pairing.search(now);
        return woman == NONE ? pairing.most : pairing.best[woman];
    }

    public int between(int witness, int other) throws IndexOutOfBoundsException, IllegalArgumentException {
        needTwo(witness, other);
        int from = Math.min(now.row.place[witness], now.row.place[other]);
        int to = Math.max(now.row.place[witness], now.row.place[other]);
        int bits = 0;
        for (int place = from + 1; place < to; place++) {
            bits |= 1 << now.row.standing[place];
        }
        return bits;
    }

    public int alone() {
        int bits = 0;
        for (int q = 0; q < now.questions; q++) {
            if (Integer.bitCount(now.asks[q]) == 1) {
                bits |= now.asks[q];
            }
        }
        return bits;
    }

    public int rests(int witness, int question) throws IndexOutOfBoundsException {
        needWitness(witness);
        needQuestion(question);
        blush.raise(now, question, now.so);
        int shame = now.row.shame[witness];
        int rises = blush.risen[witness];
        int weight = blush.weight[witness];
        int bits = 0;
        for (int its = 0; its <= 1; its++) {
            for (int courts = 0; courts <= 1; courts++) {
                boolean itStays = witnessHas(its, courts, shame, rises) >= witnessHas(1 - its, courts, shame, rises);
                boolean courtStays = courtHas(its, courts, weight) >= courtHas(its, 1 - courts, weight);
                if (itStays && courtStays) {
                    bits |= 1 << 2 * its + courts;
                }
            }
        }
        return bits;
    }

    public int odds(int n, int k) throws IllegalArgumentException {
        if (n < 0 || n > MOST_ODDS || k < 0 || k > MOST_ODDS) {
            throw new IllegalArgumentException("no such number of moments");
        }
        long hits = 0;
        long all = 1;
        for (int i = 0; i < n; i++) {
            all *= 100;
        }
        for (int often = k; often <= n; often++) {
            hits += waysOf(n, often);
        }
        return (int) (hits * 10000 / all);
    }

    public int weightiest() {
        int best = NONE;
        for (int t = 0; t < now.things; t++) {
            if (best == NONE || now.weight[t] > now.weight[best]) {
                best = t;
            }
        }
        return best;
    }

    public int twins() {
        Row row = now.row;
        int pairs = 0;
        for (int one = 0; one < row.count; one++) {
            for (int other = one + 1; other < row.count; other++) {
                if (row.skin[one] == row.skin[other] && row.shame[one] == row.shame[other]) {
                    pairs++;
                }
            }
        }
        return pairs;
    }

    public int blind() {
        int seeing = 0;
        for (int q = 0; q < now.questions; q++) {
            blush.raise(now, q, now.so);
            seeing |= blush.seeingWomen(now);
        }
        return (1 << now.women) - 1 & ~seeing;
    }

    public int so() {
        return now.so;
    }

    public int ahead(int witness, int n) throws IndexOutOfBoundsException, IllegalArgumentException {
        needWitness(witness);
        needAhead(n);
        scratch.copy(now);
        for (int i = 0; i < n; i++) {
            blush.fall(scratch);
        }
        return scratch.row.shade[witness];
    }

    public int trial(int n, boolean all) throws IllegalArgumentException {
        needAhead(n);
        scratch.copy(now);
        blush.live(scratch, n);
        return all ? scratch.row.allShades() : scratch.row.redOnes();
    }

    public int span(int n, boolean most) throws IllegalArgumentException {
        needAhead(n);
        if (now.row.count == 0) {
            return 0;
        }
        int found = most ? 0 : TOP;
        for (int seed = 1; seed <= 6; seed++) {
            scratch.copy(now);
            scratch.seed = seed;
            blush.live(scratch, n);
            for (int w = 0; w < now.row.count; w++) {
                int shade = scratch.row.shade[w];
                found = most ? Math.max(found, shade) : Math.min(found, shade);
            }
        }
        return found;
    }

    public int led(int witness, boolean moment) throws IndexOutOfBoundsException {
        needWitness(witness);
        Log log = now.log;
        int rows = 0;
        int latest = NONE;
        for (int ago = 0; ago < log.count; ago++) {
            if (log.read(ago, 1) == witness) {
                latest = rows == 0 ? log.read(ago, 0) : latest;
                rows++;
            }
        }
        return moment ? latest : rows;
    }

    public int log(int ago, int what) throws NoSuchElementException {
        if (what < 0 || what > 4) {
            throw new NoSuchElementException("nothing else stands in the log");
        }
        if (ago < 0 || ago >= now.log.count) {
            return -2;
        }
        return now.log.read(ago, what);
    }

    public int seed(int n) {
        int was = now.seed;
        now.seed = n;
        return was;
    }

    public boolean undo() {
        return history.undoInto(now);
    }

    public void image() {
        kept.copy(now);
        keptLaw.copy(blush.law);
        imaged = true;
    }

    public boolean back() {
        if (!imaged) {
            return false;
        }
        now.copy(kept);
        blush.law.copy(keptLaw);
        history.forget();
        return true;
    }

    public int count(int what) {
        switch (what) {
            case 0: return now.row.count;
            case 1: return now.things;
            case 2: return now.questions;
            case 3: return now.women;
            case 4: return now.texts;
            case 5: return blush.law.lines;
            case 6: return now.moment;
            case 7: return now.heat;
            case 8: return now.row.allShades();
            case 9: return now.log.count;
            case 10: return history.count;
            default: return NONE;
        }
    }

    private void needWitness(int witness) {
        if (witness < 0 || witness >= now.row.count) {
            throw new IndexOutOfBoundsException("no such witness");
        }
    }

    private void needTwo(int witness, int other) {
        needWitness(witness);
        needWitness(other);
        if (witness == other) {
            throw new IllegalArgumentException("both are one");
        }
    }

    private void needThing(int thing) {
        if (thing < 0 || thing >= now.things) {
            throw new IndexOutOfBoundsException("no such thing");
        }
    }

    private void needQuestion(int question) {
        if (question < 0 || question >= now.questions) {
            throw new IndexOutOfBoundsException("no such question");
        }
    }

    private void needWoman(int woman) {
        if (woman < 0 || woman >= now.women) {
            throw new IndexOutOfBoundsException("no such woman");
        }
    }

    private void needPlace(int place) {
        if (place < 0 || place >= now.row.count) {
            throw new IndexOutOfBoundsException("no such place");
        }
    }

    private void needAhead(int n) {
        if (n < 0 || n > MOST_AHEAD) {
            throw new IllegalArgumentException("no such number of moments");
        }
    }

    /** How many rows of three are told; each of their three numbers must be one that can be. */
    private int needRows(int size, int firsts, int seconds, int most) {
        int rows = size / 3;
        boolean right = size % 3 == 0 && size <= MOST_BYTES_TOLD;
        for (int r = 0; r < rows && right; r++) {
            right = tape.told(r, 0) < firsts && tape.told(r, 1) < seconds && tape.told(r, 2) <= most;
        }
        if (!right) {
            throw new IllegalArgumentException("the tape is not that");
        }
        return rows;
    }

    private long fittingWorlds() {
        int rows = needRows(tape.useUp(), now.questions, now.row.count, 255);
        return worlds.fitting(blush, now, tape, rows);
    }

    private int shareOf(int witness) {
        int all = now.row.allShades();
        return all == 0 ? 0 : now.row.shade[witness] * 100 / all;
    }

    private int foundOut(int witness) {
        int bits = 0;
        for (int q = 0; q < now.questions; q++) {
            blush.raise(now, q, now.so);
            if (blush.isFoundOut(now, witness)) {
                bits |= 1 << q;
            }
        }
        return bits;
    }

    private int touchedBy(int question) {
        int bits = 0;
        for (int w = 0; w < now.row.count; w++) {
            if (now.weighs(question, w, now.so) > 0) {
                bits |= 1 << w;
            }
        }
        return bits;
    }

    private boolean allMayBe(int rows, int left) {
        for (int w = 0; w < now.row.count; w++) {
            if (shadesLeft(rows, w, left) == 0) {
                return false;
            }
        }
        return true;
    }

    /** What a woman wrote leaves one stretch of shades, as long as she is sharp, so that stretches are cut alone. */
    private int shadesLeft(int rows, int witness, int left) {
        int from = 0;
        int to = TOP;
        for (int r = 0; r < rows; r++) {
            int woman = tape.told(r, 0);
            if (tape.told(r, 1) != witness || (left >> woman & 1) != 0) {
                continue;
            }
            int sharp = now.sharp[woman];
            int wrote = tape.told(r, 2);
            if (readBy(sharp, wrote) != wrote) {
                return 0;
            }
            from = Math.max(from, wrote);
            to = Math.min(to, wrote + sharp - 1);
        }
        return Math.max(0, to - from + 1);
    }

    private static int witnessHas(int keeps, int unasked, int shame, int rises) {
        if (unasked == 1) {
            return 1 - keeps;
        }
        return keeps == 1 ? -(rises / 5) : -shame;
    }

    private static int courtHas(int keeps, int unasked, int weight) {
        if (keeps == 0) {
            return unasked == 1 ? 2 : 4;
        }
        return unasked == 1 ? 0 : weight - 2;
    }

    /** In hundredths to the n-th power: whole numbers, so that nothing is rounded ahead of the end. */
    private long waysOf(int n, int often) {
        long ways = 1;
        for (int i = 0; i < often; i++) {
            ways = ways * (n - i) / (i + 1);
        }
        for (int i = 0; i < n; i++) {
            ways *= i < often ? now.lies : 100 - now.lies;
        }
        return ways;
    }

    private static int readBy(int sharp, int number) {
        return sharp < 1 ? 0 : number / sharp * sharp;
    }

    /** What is fed and not used up yet; as a text it is read word by word, and the word that stands here is looked at. */
    private static final class Tape {
        private static final int END = 0;
        private static final int WORD = 1;
        private static final int NUMBER = 2;
        private static final int SIGN = 3;

        private final int[] bytes = new int[MOST_BYTES];
        private int size = 0;
        private int kind = END;
        private int begin = 0;
        private int behind = 0;

        void add(int number) {
            for (int shift = 24; shift >= 0 && size < MOST_BYTES; shift -= 8) {
                bytes[size] = number >>> shift & 255;
                size++;
            }
        }

        /** How many bytes there were; these stay where they are until more are fed. */
        int useUp() {
            int had = size;
            size = 0;
            return had;
        }

        int told(int row, int part) {
            int i = 3 * row + part;
            return i < 0 || i >= MOST_BYTES ? 0 : bytes[i];
        }

        void open() {
            behind = 0;
            advance();
        }

        void advance() {
            begin = behind;
            while (begin < size && bytes[begin] == ' ') {
                begin++;
            }
            behind = begin;
            while (behind < size && bytes[behind] >= 'a' && bytes[behind] <= 'z') {
                behind++;
            }
            kind = WORD;
            if (behind > begin) {
                return;
            }
            while (behind < size && bytes[behind] >= '0' && bytes[behind] <= '9') {
                behind++;
            }
            kind = NUMBER;
            if (behind > begin) {
                return;
            }
            kind = begin < size ? SIGN : END;
            behind = begin < size ? begin + 1 : begin;
        }

        boolean isEnd() {
            return kind == END;
        }

        boolean isSign(char sign) {
            return kind == SIGN && bytes[begin] == sign;
        }

        boolean isWord(String word) {
            if (kind != WORD || behind - begin != word.length()) {
                return false;
            }
            for (int i = 0; i < word.length(); i++) {
                if (bytes[begin + i] != word.charAt(i)) {
                    return false;
                }
            }
            return true;
        }

        boolean takeSign(char sign) {
            if (!isSign(sign)) {
                return false;
            }
            advance();
            return true;
        }

        boolean takeWord(String word) {
            if (!isWord(word)) {
                return false;
            }
            advance();
            return true;
        }

        /** The number that stands here; NONE, and nothing is taken, if it is none from least to most. */
        int takeNumber(int least, int most) {
            if (kind != NUMBER || behind - begin > 3) {
                return NONE;
            }
            int number = 0;
            for (int i = begin; i < behind; i++) {
                number = 10 * number + bytes[i] - '0';
            }
            if (number < least || number > most) {
                return NONE;
            }
            advance();
            return number;
        }

        int takeNumberAfter(String word, int least, int most) {
            return takeWord(word) ? takeNumber(least, most) : NONE;
        }

        /** The letters that stand here, as bits; NONE, and nothing is taken, if they are none of so many. */
        int takeLetters(int many) {
            if (kind != WORD) {
                return NONE;
            }
            int bits = 0;
            for (int i = begin; i < behind; i++) {
                int letter = bytes[i] - 'a';
                if (letter < 0 || letter >= many || (bits >> letter & 1) != 0) {
                    return NONE;
                }
                bits |= 1 << letter;
            }
            advance();
            return bits;
        }
    }

    /** The witnesses, and the row in which they stand. */
    private static final class Row {
        private final int[] skin = new int[MOST_WITNESSES];
        private final int[] shame = new int[MOST_WITNESSES];
        private final int[] drink = new int[MOST_WITNESSES];
        private final int[] shade = new int[MOST_WITNESSES];
        private final int[] place = new int[MOST_WITNESSES];
        private final int[] standing = new int[MOST_WITNESSES];
        private int count = 0;

        void copy(Row other) {
            System.arraycopy(other.skin, 0, skin, 0, MOST_WITNESSES);
            System.arraycopy(other.shame, 0, shame, 0, MOST_WITNESSES);
            System.arraycopy(other.drink, 0, drink, 0, MOST_WITNESSES);
            System.arraycopy(other.shade, 0, shade, 0, MOST_WITNESSES);
            System.arraycopy(other.place, 0, place, 0, MOST_WITNESSES);
            System.arraycopy(other.standing, 0, standing, 0, MOST_WITNESSES);
            count = other.count;
        }

        void swap(int one, int other) {
            int was = place[one];
            place[one] = place[other];
            place[other] = was;
            standing[place[one]] = one;
            standing[place[other]] = other;
        }

        void darken(int witness, int by) {
            shade[witness] = Math.min(TOP, shade[witness] + by);
        }

        int allShades() {
            int all = 0;
            for (int w = 0; w < count; w++) {
                all += shade[w];
            }
            return all;
        }

        int redOnes() {
            int bits = 0;
            for (int w = 0; w < count; w++) {
                if (shade[w] >= RED) {
                    bits |= 1 << w;
                }
            }
            return bits;
        }
    }

    /** The latest reds; one number holds a row, so that what is remembered of acts stays small. */
    private static final class Log {
        private final long[] rows = new long[MOST_LOGGED];
        private int count = 0;
        private int next = 0;

        void copy(Log other) {
            System.arraycopy(other.rows, 0, rows, 0, MOST_LOGGED);
            count = other.count;
            next = other.next;
        }

        void add(int moment, int witness, int how, int question, int by) {
            long row = moment;
            row = row << 4 | witness;
            row = row << 4 | how;
            row = row << 4 | question + 1;
            rows[next] = row << 16 | by;
            next = (next + 1) % MOST_LOGGED;
            count = Math.min(MOST_LOGGED, count + 1);
        }

        int read(int ago, int what) {
            if (ago < 0 || ago >= MOST_LOGGED) {
                return NONE;
            }
            long row = rows[(next + MOST_LOGGED - 1 - ago) % MOST_LOGGED];
            switch (what) {
                case 0: return (int) (row >> 28);
                case 1: return (int) (row >> 24 & 15);
                case 2: return (int) (row >> 20 & 15);
                case 3: return (int) (row >> 16 & 15) - 1;
                default: return (int) (row & 65535);
            }
        }
    }

    /** All that acts and texts of the court change; the law is held apart, as no act changes it. */
    private static final class Court {
        private final Row row = new Row();
        private final Log log = new Log();
        private final int[] weight = new int[MOST_THINGS];
        private final int[] touches = new int[MOST_THINGS];
        private final int[] asks = new int[MOST_QUESTIONS];
        private final int[] sharp = new int[MOST_WOMEN];
        private int things = 0;
        private int questions = 0;
        private int women = 0;
        private int texts = 0;
        private int so = 0;
        private int heat = 3;
        private int lies = 0;
        private int talk = 0;
        private int moment = 0;
        private int seed = 1;

        void copy(Court other) {
            row.copy(other.row);
            log.copy(other.log);
            System.arraycopy(other.weight, 0, weight, 0, MOST_THINGS);
            System.arraycopy(other.touches, 0, touches, 0, MOST_THINGS);
            System.arraycopy(other.asks, 0, asks, 0, MOST_QUESTIONS);
            System.arraycopy(other.sharp, 0, sharp, 0, MOST_WOMEN);
            things = other.things;
            questions = other.questions;
            women = other.women;
            texts = other.texts;
            so = other.so;
            heat = other.heat;
            lies = other.lies;
            talk = other.talk;
            moment = other.moment;
            seed = other.seed;
        }

        int draw() {
            seed = 1103515245 * seed + 12345;
            return seed >>> 16 & 32767;
        }

        int allThings() {
            return (1 << things) - 1;
        }

        int worldCount() {
            return 1 << things;
        }

        int touching(int witness) {
            int bits = 0;
            for (int t = 0; t < things; t++) {
                bits |= (touches[t] >> witness & 1) << t;
            }
            return bits;
        }

        int leaning(int thing) {
            int bits = 0;
            for (int q = 0; q < questions; q++) {
                bits |= (asks[q] >> thing & 1) << q;
            }
            return bits;
        }

        int weighs(int question, int witness, int world) {
            int said = asks[question] & world;
            int sum = 0;
            for (int t = 0; t < things; t++) {
                if ((said >> t & touches[t] >> witness & 1) != 0) {
                    sum += weight[t];
                }
            }
            return sum;
        }
    }

    /** The acts that can be undone, as the courts ahead of them, in a ring. */
    private static final class History {
        private final Court[] ahead = new Court[MOST_ACTS];
        private int count = 0;
        private int next = 0;

        History() {
            for (int i = 0; i < MOST_ACTS; i++) {
                ahead[i] = new Court();
            }
        }

        void remember(Court court) {
            Court slot = ahead[next];
            if (slot == null) {
                return;
            }
            slot.copy(court);
            next = (next + 1) % MOST_ACTS;
            count = Math.min(MOST_ACTS, count + 1);
        }

        boolean undoInto(Court court) {
            int latest = (next + MOST_ACTS - 1) % MOST_ACTS;
            Court slot = ahead[latest];
            if (count == 0 || slot == null) {
                return false;
            }
            court.copy(slot);
            next = latest;
            count--;
            return true;
        }

        void forget() {
            count = 0;
        }
    }

    /** A law as rows of steps on a stack: a number pushes itself, a fact or a sign is below 0. */
    private static final class Law {
        private static final int RISE = 0;
        private static final int FALL = 1;
        private static final int PASS = 2;
        private static final int WITNESS = 0;
        private static final int SKIN = 1;
        private static final int SHAME = 2;
        private static final int DRINK = 3;
        private static final int SHADE = 4;
        private static final int HEAT = 5;
        private static final int WEIGHT = 6;
        private static final int PLACE = 7;
        private static final int TOUCHED = 8;
        private static final int IS_RED = 9;
        private static final int EDGE = 10;
        private static final int FACTS = 11;
        private static final int NOT = -20;
        private static final int ADD = -21;
        private static final int BELOW = -22;
        private static final int ABOVE = -23;
        private static final int AND = -24;
        private static final int OR = -25;

        private final int[] kind = new int[MOST_LAW_LINES];
        private final int[] amount = new int[MOST_LAW_LINES];
        private final int[] end = new int[MOST_LAW_LINES];
        private final int[] code = new int[MOST_BYTES];
        private final int[] facts = new int[FACTS];
        private final int[] stack = new int[2 + 4 * (DEEPEST + 1)];
        private int lines = NONE;
        private int length = 0;

        void copy(Law other) {
            System.arraycopy(other.kind, 0, kind, 0, MOST_LAW_LINES);
            System.arraycopy(other.amount, 0, amount, 0, MOST_LAW_LINES);
            System.arraycopy(other.end, 0, end, 0, MOST_LAW_LINES);
            System.arraycopy(other.code, 0, code, 0, MOST_BYTES);
            lines = other.lines;
            length = other.length;
        }

        /** Whether all could stand where it does; if not, the word that stands here is the first that could not. */
        boolean read(Tape words) {
            lines = 0;
            length = 0;
            words.open();
            if (words.isEnd()) {
                return true;
            }
            for (int line = 0; line < MOST_LAW_LINES; line++) {
                if (!readLine(words)) {
                    return false;
                }
                if (words.isEnd()) {
                    return true;
                }
                if (!words.takeSign(';')) {
                    return false;
                }
            }
            return false;
        }

        private boolean readLine(Tape words) {
            int kind = kindHere(words);
            if (kind == NONE) {
                return false;
            }
            words.advance();
            int amount = words.takeNumber(0, TOP);
            if (amount == NONE) {
                return false;
            }
            begin(kind, amount);
            return !words.takeWord("if") || readAny(words, 0);
        }

        private static int kindHere(Tape words) {
            if (words.isWord("rise")) {
                return RISE;
            }
            if (words.isWord("fall")) {
                return FALL;
            }
            return words.isWord("pass") ? PASS : NONE;
        }

        private boolean readAny(Tape words, int depth) {
            if (!readAll(words, depth)) {
                return false;
            }
            for (int i = 0; i < MOST_BYTES && words.takeWord("or"); i++) {
                if (!readAll(words, depth)) {
                    return false;
                }
                addStep(OR);
            }
            return true;
        }

        private boolean readAll(Tape words, int depth) {
            if (!readAtom(words, depth)) {
                return false;
            }
            for (int i = 0; i < MOST_BYTES && words.takeWord("and"); i++) {
                if (!readAtom(words, depth)) {
                    return false;
                }
                addStep(AND);
            }
            return true;
        }

        private boolean readAtom(Tape words, int depth) {
            if (words.isWord("not") || words.isSign('(')) {
                return depth < DEEPEST && readDeeper(words, depth + 1);
            }
            int fact = words.isWord("touched") ? TOUCHED
                    : words.isWord("red") ? IS_RED
                    : words.isWord("edge") ? EDGE : NONE;
            if (fact != NONE) {
                addStep(-1 - fact);
                words.advance();
                return true;
            }
            if (!readSum(words)) {
                return false;
            }
            int sign = words.isSign('<') ? BELOW : ABOVE;
            if (!words.takeSign('<') && !words.takeSign('>')) {
                return false;
            }
            if (!readSum(words)) {
                return false;
            }
            addStep(sign);
            return true;
        }

        private boolean readDeeper(Tape words, int depth) {
            if (words.takeSign('(')) {
                return readAny(words, depth) && words.takeSign(')');
            }
            words.advance();
            if (!readAtom(words, depth)) {
                return false;
            }
            addStep(NOT);
            return true;
        }

        private boolean readSum(Tape words) {
            for (int i = 0; i < MOST_BYTES; i++) {
                int fact = factHere(words);
                int number = fact == NONE ? words.takeNumber(0, 999) : NONE;
                if (fact != NONE) {
                    words.advance();
                    addStep(-1 - fact);
                } else if (number != NONE) {
                    addStep(number);
                } else {
                    return false;
                }
                if (i > 0) {
                    addStep(ADD);
                }
                if (!words.takeSign('+')) {
                    return true;
                }
            }
            return false;
        }

        private static int factHere(Tape words) {
            if (words.isWord("witness")) {
                return WITNESS;
            }
            if (words.isWord("skin")) {
                return SKIN;
            }
            if (words.isWord("shame")) {
                return SHAME;
            }
            if (words.isWord("drink")) {
                return DRINK;
            }
            if (words.isWord("shade")) {
                return SHADE;
            }
            if (words.isWord("heat")) {
                return HEAT;
            }
            if (words.isWord("weight")) {
                return WEIGHT;
            }
            return words.isWord("place") ? PLACE : NONE;
        }

        private void begin(int lineKind, int lineAmount) {
            if (lines < 0 || lines >= MOST_LAW_LINES) {
                return;
            }
            kind[lines] = lineKind;
            amount[lines] = lineAmount;
            end[lines] = length;
            lines++;
        }

        private void addStep(int added) {
            if (length >= MOST_BYTES || lines < 1) {
                return;
            }
            code[length] = added;
            length++;
            end[lines - 1] = length;
        }

        int sum(int wanted, Court court, int witness, int weight) {
            note(court, witness, weight);
            int sum = 0;
            for (int line = 0; line < lines; line++) {
                if (kind[line] == wanted && holds(line)) {
                    sum += amount[line];
                }
            }
            return sum;
        }

        private void note(Court court, int witness, int weight) {
            Row row = court.row;
            int place = row.place[witness];
            facts[WITNESS] = witness;
            facts[SKIN] = row.skin[witness];
            facts[SHAME] = row.shame[witness];
            facts[DRINK] = row.drink[witness];
            facts[SHADE] = row.shade[witness];
            facts[HEAT] = court.heat;
            facts[WEIGHT] = weight;
            facts[PLACE] = place;
            facts[TOUCHED] = weight > 0 ? 1 : 0;
            facts[IS_RED] = row.shade[witness] >= RED ? 1 : 0;
            facts[EDGE] = place == 0 || place == row.count - 1 ? 1 : 0;
        }

        private boolean holds(int line) {
            int from = line == 0 ? 0 : end[line - 1];
            int top = 0;
            for (int i = from; i < end[line]; i++) {
                int step = code[i];
                if (step > NOT) {
                    if (top >= stack.length || -1 - step >= FACTS) {
                        return false;
                    }
                    stack[top] = step >= 0 ? step : facts[-1 - step];
                    top++;
                } else if (step == NOT) {
                    if (top < 1) {
                        return false;
                    }
                    stack[top - 1] = 1 - stack[top - 1];
                } else {
                    if (top < 2) {
                        return false;
                    }
                    top--;
                    int one = stack[top - 1];
                    int other = stack[top];
                    switch (step) {
                        case ADD: stack[top - 1] = one + other; break;
                        case BELOW: stack[top - 1] = one < other ? 1 : 0; break;
                        case ABOVE: stack[top - 1] = one > other ? 1 : 0; break;
                        case AND: stack[top - 1] = one & other; break;
                        default: stack[top - 1] = one | other; break;
                    }
                }
            }
            return top == 0 || stack[0] != 0;
        }
    }

    /** How shades rise and fall by the law. */
    private static final class Blush {
        private final Law law = new Law();
        private final int[] weight = new int[MOST_WITNESSES];
        private final int[] own = new int[MOST_WITNESSES];
        private final int[] passed = new int[MOST_WITNESSES];
        private final int[] risen = new int[MOST_WITNESSES];

        int fallsBy(Court court, int witness) {
            return 10 - court.heat + law.sum(Law.FALL, court, witness, 0);
        }

        void fall(Court court) {
            Row row = court.row;
            for (int w = 0; w < row.count; w++) {
                row.shade[w] = Math.max(0, row.shade[w] - fallsBy(court, w));
            }
        }

        int wouldBePale(Court court) {
            int paled = 0;
            for (int w = 0; w < court.row.count; w++) {
                if (court.row.shade[w] <= fallsBy(court, w)) {
                    paled++;
                }
            }
            return paled;
        }

        /** Fills weight, own and risen for a question, if just the things of that world were so. */
        void raise(Court court, int question, int world) {
            Row row = court.row;
            for (int w = 0; w < row.count; w++) {
                weight[w] = court.weighs(question, w, world);
                own[w] = ownOf(court, w);
                passed[w] = own[w] == 0 ? 0 : own[w] * passes(court, w) / 100;
            }
            for (int place = 0; place < row.count; place++) {
                int w = row.standing[place];
                risen[w] = own[w];
                if (place > 0) {
                    risen[w] += passed[row.standing[place - 1]];
                }
                if (place < row.count - 1) {
                    risen[w] += passed[row.standing[place + 1]];
                }
            }
        }

        int ownOf(Court court, int witness) {
            int touching = weight[witness];
            if (touching == 0) {
                return 0;
            }
            Row row = court.row;
            int sum = touching * row.skin[witness] + row.shame[witness] - row.drink[witness];
            return Math.max(0, sum + law.sum(Law.RISE, court, witness, touching));
        }

        private int passes(Court court, int witness) {
            if (law.lines == NONE) {
                return 50;
            }
            return Math.min(TOP, law.sum(Law.PASS, court, witness, weight[witness]));
        }

        boolean givesAway(int witness) {
            return risen[witness] > 0 && weight[witness] == 0;
        }

        boolean isSeen(Court court, int woman, int witness) {
            int sharp = court.sharp[woman];
            int shade = court.row.shade[witness];
            return readBy(sharp, Math.min(TOP, shade + risen[witness])) > readBy(sharp, shade);
        }

        boolean isFoundOut(Court court, int witness) {
            for (int woman = 0; woman < court.women; woman++) {
                if (isSeen(court, woman, witness)) {
                    return true;
                }
            }
            return false;
        }

        int seeingWomen(Court court) {
            int bits = 0;
            for (int woman = 0; woman < court.women; woman++) {
                for (int w = 0; w < court.row.count; w++) {
                    if (isSeen(court, woman, w)) {
                        bits |= 1 << woman;
                    }
                }
            }
            return bits;
        }

        int utter(Court court, int question, int how) {
            raise(court, question, court.so);
            int bits = 0;
            for (int w = 0; w < court.row.count; w++) {
                if (risen[w] > 0) {
                    court.row.darken(w, risen[w]);
                    court.log.add(court.moment, w, how, question, risen[w]);
                    bits |= 1 << w;
                }
            }
            return bits;
        }

        int live(Court court, int n) {
            int said = 0;
            for (int i = 0; i < n; i++) {
                fall(court);
                if (court.draw() % 100 < court.talk && court.questions > 0) {
                    utter(court, court.draw() % court.questions, BY_MOMENT);
                    said++;
                }
                blushFalsely(court);
                court.moment = Math.min(LAST_MOMENT, court.moment + 1);
            }
            return said;
        }

        private void blushFalsely(Court court) {
            for (int w = 0; w < court.row.count; w++) {
                if (court.draw() % 100 < court.lies) {
                    court.row.darken(w, FALSE_BLUSH);
                    court.log.add(court.moment, w, FALSELY, NONE, FALSE_BLUSH);
                }
            }
        }
    }

    /** What would rise in all worlds; worlds that are alike to a question bear the number of the least of them. */
    private static final class Worlds {
        private final int[] rise = new int[MOST_WORLDS * MOST_WITNESSES];
        private final int[] part = new int[MOST_QUESTIONS * MOST_WORLDS];
        private final int[] size = new int[MOST_WORLDS];
        private final int[] unparted = new int[1 << MOST_QUESTIONS];

        /** Things that a question does not say change nothing by it: such a world takes over what a lesser one has. */
        private void weigh(Blush blush, Court court, int question) {
            int at = question * MOST_WORLDS;
            for (int world = 0; world < court.worldCount(); world++) {
                int said = world & court.asks[question];
                if (said != world) {
                    System.arraycopy(rise, said * MOST_WITNESSES, rise, world * MOST_WITNESSES, MOST_WITNESSES);
                    part[at + world] = part[at + said];
                } else {
                    blush.raise(court, question, world);
                    System.arraycopy(blush.risen, 0, rise, world * MOST_WITNESSES, MOST_WITNESSES);
                    part[at + world] = firstAlike(court.row.count, at, world);
                }
            }
        }

        private int firstAlike(int witnesses, int at, int world) {
            for (int other = 0; other < world; other++) {
                if (part[at + other] == other && isAlike(witnesses, other, world)) {
                    return other;
                }
            }
            return world;
        }

        private boolean isAlike(int witnesses, int one, int other) {
            for (int w = 0; w < witnesses; w++) {
                if (rise[one * MOST_WITNESSES + w] != rise[other * MOST_WITNESSES + w]) {
                    return false;
                }
            }
            return true;
        }

        /** The worlds in which all rows are so: the bit of each is its number. */
        long fitting(Blush blush, Court court, Tape tape, int rows) {
            int count = court.worldCount();
            long fitting = count >= MOST_WORLDS ? -1L : (1L << count) - 1;
            for (int q = 0; q < court.questions; q++) {
                boolean weighed = false;
                for (int r = 0; r < rows; r++) {
                    if (tape.told(r, 0) != q) {
                        continue;
                    }
                    if (!weighed) {
                        weigh(blush, court, q);
                        weighed = true;
                    }
                    fitting &= fittingRow(count, tape.told(r, 1), tape.told(r, 2));
                }
            }
            return fitting;
        }

        private long fittingRow(int count, int witness, int by) {
            long fitting = 0;
            for (int world = 0; world < count; world++) {
                int at = world * MOST_WITNESSES + witness;
                if (at < rise.length && rise[at] == by) {
                    fitting |= 1L << world;
                }
            }
            return fitting;
        }

        int greatestPart(Blush blush, Court court, int question, long fitting) {
            weigh(blush, court, question);
            Arrays.fill(size, 0);
            int greatest = 0;
            for (int world = 0; world < court.worldCount(); world++) {
                if ((fitting >>> world & 1L) != 0) {
                    int alike = part[question * MOST_WORLDS + world];
                    size[alike]++;
                    greatest = Math.max(greatest, size[alike]);
                }
            }
            return greatest;
        }

        int partsOf(Blush blush, Court court, int question) {
            weigh(blush, court, question);
            int parts = 0;
            for (int world = 0; world < court.worldCount(); world++) {
                if (part[question * MOST_WORLDS + world] == world) {
                    parts++;
                }
            }
            return parts;
        }

        private int partedBy(int questions, int one, int other) {
            int bits = 0;
            for (int q = 0; q < questions; q++) {
                if (part[q * MOST_WORLDS + one] != part[q * MOST_WORLDS + other]) {
                    bits |= 1 << q;
                }
            }
            return bits;
        }

        /** Things in which two worlds differ that no question parts. */
        int hidden(Blush blush, Court court) {
            for (int q = 0; q < court.questions; q++) {
                weigh(blush, court, q);
            }
            int hidden = 0;
            for (int one = 0; one < court.worldCount(); one++) {
                for (int other = one + 1; other < court.worldCount(); other++) {
                    if (((one ^ other) & ~hidden) != 0 && partedBy(court.questions, one, other) == 0) {
                        hidden |= one ^ other;
                    }
                }
            }
            return hidden;
        }

        int knownBy(Blush blush, Court court, int thing) {
            for (int q = 0; q < court.questions; q++) {
                weigh(blush, court, q);
            }
            markUnparted(court, thing);
            int all = (1 << court.questions) - 1;
            int best = NONE;
            for (int asked = 0; asked <= all; asked++) {
                boolean fewer = best == NONE || Integer.bitCount(asked) < Integer.bitCount(best);
                if (fewer && unparted[all & ~asked] == 0) {
                    best = asked;
                }
            }
            return best;
        }

        /** A set of questions is marked if two worlds, of which one has the thing so, are parted by some of these alone. */
        private void markUnparted(Court court, int thing) {
            Arrays.fill(unparted, 0);
            for (int one = 0; one < court.worldCount(); one++) {
                for (int other = one + 1; other < court.worldCount(); other++) {
                    if (((one ^ other) >> thing & 1) != 0) {
                        unparted[partedBy(court.questions, one, other)] = 1;
                    }
                }
            }
            for (int q = 0; q < court.questions; q++) {
                for (int set = 0; set < 1 << court.questions; set++) {
                    if ((set >> q & 1) != 0 && unparted[set & ~(1 << q)] != 0) {
                        unparted[set] = 1;
                    }
                }
            }
        }
    }

    /** Tries all rows, the first ones first, so that of like ones the first is kept. */
    private static final class Apart {
        private final int[] best = new int[MOST_WITNESSES];
        private final int[] tried = new int[MOST_WITNESSES];
        private int leastShared = NONE;
        private int fewestChanges = NONE;

        static int sharedIn(int[] standing, int count, int touched) {
            int shared = 0;
            for (int place = 1; place < count; place++) {
                if ((touched >> standing[place - 1] & 1) != (touched >> standing[place] & 1)) {
                    shared++;
                }
            }
            return shared;
        }

        void search(Row row, int touched) {
            leastShared = NONE;
            fewestChanges = 0;
            extend(row, touched, 0, 0);
        }

        private void extend(Row row, int touched, int place, int used) {
            if (place >= row.count) {
                weighTried(row, touched);
                return;
            }
            for (int w = 0; w < row.count; w++) {
                if ((used >> w & 1) == 0) {
                    tried[place] = w;
                    extend(row, touched, place + 1, used | 1 << w);
                }
            }
        }

        private void weighTried(Row row, int touched) {
            int shared = sharedIn(tried, row.count, touched);
            if (leastShared != NONE && shared > leastShared) {
                return;
            }
            int changes = changesTo(row);
            if (leastShared == NONE || shared < leastShared || changes < fewestChanges) {
                leastShared = shared;
                fewestChanges = changes;
                System.arraycopy(tried, 0, best, 0, MOST_WITNESSES);
            }
        }

        /** Each change of two side by side turns one pair round: as many as stand the other way round. */
        private int changesTo(Row row) {
            int changes = 0;
            for (int one = 0; one < row.count; one++) {
                for (int other = one + 1; other < row.count; other++) {
                    if (row.place[tried[one]] > row.place[tried[other]]) {
                        changes++;
                    }
                }
            }
            return changes;
        }
    }

    /** Tries all ways of two by two, the first ones first, so that of like ones the first is kept. */
    private static final class Couples {
        private final int[] best = new int[MOST_WOMEN];
        private final int[] tried = new int[MOST_WOMEN];
        private int most = NONE;

        void search(Court court) {
            Arrays.fill(tried, NONE);
            most = NONE;
            extend(court, 0, 0);
        }

        private void extend(Court court, int woman, int sum) {
            if (woman >= court.women) {
                if (sum > most) {
                    most = sum;
                    System.arraycopy(tried, 0, best, 0, MOST_WOMEN);
                }
                return;
            }
            extend(court, woman + 1, sum);
            if (tried[woman] != NONE) {
                return;
            }
            for (int other = woman + 1; other < court.women; other++) {
                if (tried[other] == NONE) {
                    tried[woman] = other;
                    tried[other] = woman;
                    extend(court, woman + 1, sum + unlike(court, woman, other));
                    tried[woman] = NONE;
                    tried[other] = NONE;
                }
            }
        }

        private static int unlike(Court court, int one, int other) {
            int unlike = 0;
            for (int w = 0; w < court.row.count; w++) {
                int shade = court.row.shade[w];
                if (readBy(court.sharp[one], shade) != readBy(court.sharp[other], shade)) {
                    unlike++;
                }
            }
            return unlike;
        }
    }

    /** Reads a text of the court; what reads a line answers false as soon as something cannot stand where it does. */
    private static final class CourtText {
        /** Whether all could stand where it does; if not, the word that stands here is the first that could not. */
        static boolean read(Tape words, Court court) {
            words.open();
            if (words.isEnd()) {
                return true;
            }
            for (int line = 0; line < MOST_COURT_LINES; line++) {
                if (!readLine(words, court)) {
                    return false;
                }
                if (words.isEnd()) {
                    return true;
                }
                if (!words.takeSign(';')) {
                    return false;
                }
            }
            return false;
        }

        private static boolean readLine(Tape words, Court court) {
            if (words.isWord("witness")) {
                return court.row.count < MOST_WITNESSES && readWitness(words, court.row);
            }
            if (words.isWord("thing")) {
                return court.things < MOST_THINGS && readThing(words, court);
            }
            if (words.isWord("ask")) {
                return court.questions < MOST_QUESTIONS && readQuestion(words, court);
            }
            if (words.isWord("woman")) {
                return court.women < MOST_WOMEN && readWoman(words, court);
            }
            return readNumber(words, court);
        }

        private static boolean readNumber(Tape words, Court court) {
            if (words.isWord("heat")) {
                court.heat = words.takeNumberAfter("heat", 0, 9);
                return court.heat != NONE;
            }
            if (words.isWord("false")) {
                court.lies = words.takeNumberAfter("false", 0, 100);
                return court.lies != NONE;
            }
            if (words.isWord("talk")) {
                court.talk = words.takeNumberAfter("talk", 0, 100);
                return court.talk != NONE;
            }
            if (words.isWord("moment")) {
                court.moment = words.takeNumberAfter("moment", 0, 999);
                return court.moment != NONE;
            }
            return false;
        }

        private static boolean readWitness(Tape words, Row row) {
            words.advance();
            int skin = words.takeNumberAfter("skin", 0, 9);
            int shame = skin == NONE ? NONE : words.takeNumberAfter("shame", 0, 9);
            if (shame == NONE) {
                return false;
            }
            int drink = words.isWord("drink") ? words.takeNumberAfter("drink", 0, TOP) : 0;
            if (drink == NONE) {
                return false;
            }
            int shade = words.isWord("shade") ? words.takeNumberAfter("shade", 0, TOP) : 0;
            if (shade == NONE) {
                return false;
            }
            int witness = row.count;
            row.skin[witness] = skin;
            row.shame[witness] = shame;
            row.drink[witness] = drink;
            row.shade[witness] = shade;
            row.place[witness] = witness;
            row.standing[witness] = witness;
            row.count++;
            return true;
        }

        private static boolean readThing(Tape words, Court court) {
            words.advance();
            int weight = words.takeNumberAfter("weight", 1, 9);
            if (weight == NONE) {
                return false;
            }
            int touches = words.takeWord("touches") ? words.takeLetters(court.row.count) : 0;
            if (touches == NONE) {
                return false;
            }
            int thing = court.things;
            int is = words.takeWord("so") ? 1 : 0;
            court.weight[thing] = weight;
            court.touches[thing] = touches;
            court.so |= is << thing;
            court.things++;
            return true;
        }

        private static boolean readQuestion(Tape words, Court court) {
            words.advance();
            int says = words.takeLetters(court.things);
            if (says == NONE) {
                return false;
            }
            court.asks[court.questions] = says;
            court.questions++;
            return true;
        }

        private static boolean readWoman(Tape words, Court court) {
            words.advance();
            int sharp = words.takeNumberAfter("sharp", 1, 20);
            if (sharp == NONE) {
                return false;
            }
            court.sharp[court.women] = sharp;
            court.women++;
            return true;
        }
    }
}
