import java.lang.reflect.Method;
import java.lang.reflect.Modifier;
import java.math.BigInteger;
import java.util.ArrayDeque;
import java.util.ArrayList;
import java.util.Arrays;
import java.util.Collections;
import java.util.HashMap;
import java.util.HashSet;
import java.util.List;
import java.util.Map;
import java.util.NoSuchElementException;
import java.util.Random;
import java.util.Set;
import java.util.TreeSet;
import java.util.function.Predicate;
import java.util.function.ToIntFunction;

/**
 * Long runs of drawn calls on the class and on a slow model of it, which is written from the document by other means:
 * trees in place of steps, all shades in place of stretches, a walk over rows in place of counting pairs.
 */
public final class BlushCourtAgainstModel {
    private static final int RUNS = 1500;
    private static final int CALLS = 500;
    private static int wrong = 0;
    private static final Map<String, int[]> tally = new HashMap<>();

    private interface Call {
        long on(BlushCourt court);
    }

    private interface ModelCall {
        long on(Model model);
    }

    public static void main(String[] args) {
        int runs = args.length > 0 ? Integer.parseInt(args[0]) : RUNS;
        for (int run = 0; run < runs && wrong < 20; run++) {
            new Run(run).go();
        }
        checkTally();
        System.out.println(wrong == 0 ? "all answers are as the model's" : wrong + " answers are not as the model's");
        if (wrong != 0) {
            System.exit(1);
        }
    }

    /** A run that never answers, or never throws, would show nothing. */
    private static void checkTally() {
        for (Method method : BlushCourt.class.getDeclaredMethods()) {
            if (!Modifier.isPublic(method.getModifiers())) {
                continue;
            }
            int[] often = tally.getOrDefault(method.getName(), new int[2]);
            boolean throwing = method.getExceptionTypes().length > 0;
            if (often[0] == 0 || throwing != often[1] > 0) {
                wrong++;
                System.out.println(method.getName() + " answered " + often[0] + " times and threw " + often[1] + " times");
            }
        }
    }

    private static final class Fault extends RuntimeException {
        private static final long serialVersionUID = 1;
        final int at;

        Fault(int at) {
            this.at = at;
        }
    }

    private static final class Token {
        final String text;
        final int at;

        Token(String text, int at) {
            this.text = text;
            this.at = at;
        }
    }

    private static final class Env {
        final State s;
        final int w;
        final int weight;

        Env(State s, int w, int weight) {
            this.s = s;
            this.w = w;
            this.weight = weight;
        }
    }

    private static final class LawLine {
        String kind;
        int n;
        Predicate<Env> holds = e -> true;
    }

    private static final class State {
        List<int[]> witnesses = new ArrayList<>();
        List<Integer> row = new ArrayList<>();
        List<int[]> things = new ArrayList<>();
        Set<Integer> so = new TreeSet<>();
        List<Set<Integer>> questions = new ArrayList<>();
        List<Integer> women = new ArrayList<>();
        int heat = 3;
        int lies = 0;
        int talk = 0;
        int moment = 0;
        int texts = 0;
        int seed = 1;
        List<LawLine> law = null;
        List<int[]> log = new ArrayList<>();

        State copy() {
            State c = new State();
            for (int[] w : witnesses) {
                c.witnesses.add(w.clone());
            }
            c.row.addAll(row);
            for (int[] t : things) {
                c.things.add(t.clone());
            }
            c.so.addAll(so);
            for (Set<Integer> q : questions) {
                c.questions.add(new TreeSet<>(q));
            }
            c.women.addAll(women);
            c.heat = heat;
            c.lies = lies;
            c.talk = talk;
            c.moment = moment;
            c.texts = texts;
            c.seed = seed;
            c.law = law;
            c.log.addAll(log);
            return c;
        }

        int shade(int w) {
            return witnesses.get(w)[3];
        }

        int weight(Set<Integer> said, Set<Integer> world, int w) {
            int sum = 0;
            for (int t : said) {
                if (world.contains(t) && (things.get(t)[1] & 1 << w) != 0) {
                    sum += things.get(t)[0];
                }
            }
            return sum;
        }

        int lawSum(String kind, int w, int weight) {
            int sum = 0;
            for (LawLine line : law == null ? new ArrayList<LawLine>() : law) {
                if (line.kind.equals(kind) && line.holds.test(new Env(this, w, weight))) {
                    sum += line.n;
                }
            }
            return sum;
        }

        int own(int q, Set<Integer> world, int w) {
            int weight = weight(questions.get(q), world, w);
            if (weight == 0) {
                return 0;
            }
            int[] x = witnesses.get(w);
            return Math.max(0, weight * x[0] + x[1] + lawSum("rise", w, weight) - x[2]);
        }

        int passes(int q, Set<Integer> world, int w) {
            return law == null ? 50 : Math.min(99, lawSum("pass", w, weight(questions.get(q), world, w)));
        }

        int rises(int q, Set<Integer> world, int w) {
            int place = row.indexOf(w);
            int sum = own(q, world, w);
            for (int side = -1; side <= 1; side += 2) {
                if (place + side >= 0 && place + side < row.size()) {
                    int other = row.get(place + side);
                    sum += Math.floorDiv(own(q, world, other) * passes(q, world, other), 100);
                }
            }
            return sum;
        }

        List<Integer> allRises(int q, Set<Integer> world) {
            List<Integer> all = new ArrayList<>();
            for (int w = 0; w < witnesses.size(); w++) {
                all.add(rises(q, world, w));
            }
            return all;
        }

        int falls(int w) {
            return 10 - heat + lawSum("fall", w, 0);
        }

        void fallAll() {
            int[] by = new int[witnesses.size()];
            for (int w = 0; w < by.length; w++) {
                by[w] = falls(w);
            }
            for (int w = 0; w < by.length; w++) {
                witnesses.get(w)[3] = Math.max(0, shade(w) - by[w]);
            }
        }

        void logged(int w, int how, int q, int by) {
            log.add(0, new int[] {moment, w, how, q, by});
            if (log.size() > 60) {
                log.remove(60);
            }
        }

        int say(int q, int how) {
            List<Integer> all = allRises(q, so);
            int bits = 0;
            for (int w = 0; w < all.size(); w++) {
                if (all.get(w) > 0) {
                    witnesses.get(w)[3] = Math.min(99, shade(w) + all.get(w));
                    logged(w, how, q, all.get(w));
                    bits |= 1 << w;
                }
            }
            return bits;
        }

        int draw() {
            BigInteger next = BigInteger.valueOf(1103515245L).multiply(BigInteger.valueOf(seed)).add(BigInteger.valueOf(12345));
            seed = next.intValue();
            int bits = 0;
            for (int b = 16; b <= 30; b++) {
                bits += next.testBit(b) ? 1 << b - 16 : 0;
            }
            return bits;
        }

        int moments(int n) {
            int said = 0;
            for (int i = 0; i < n; i++) {
                fallAll();
                boolean talks = draw() % 100 < talk;
                if (talks && !questions.isEmpty()) {
                    say(draw() % questions.size(), 1);
                    said++;
                }
                for (int w = 0; w < witnesses.size(); w++) {
                    if (draw() % 100 < lies) {
                        witnesses.get(w)[3] = Math.min(99, shade(w) + 20);
                        logged(w, 2, -1, 20);
                    }
                }
                moment = Math.min(9999, moment + 1);
            }
            return said;
        }

        List<Set<Integer>> worlds() {
            List<Set<Integer>> all = new ArrayList<>();
            for (int bits = 0; bits < 1 << things.size(); bits++) {
                all.add(fromBits(bits));
            }
            return all;
        }

        int shared(List<Integer> standing, int q) {
            int n = 0;
            for (int i = 1; i < standing.size(); i++) {
                boolean one = weight(questions.get(q), so, standing.get(i - 1)) > 0;
                boolean other = weight(questions.get(q), so, standing.get(i)) > 0;
                n += one != other ? 1 : 0;
            }
            return n;
        }

        boolean seen(int q, int woman, int w) {
            int behind = Math.min(99, shade(w) + rises(q, so, w));
            return reads(women.get(woman), behind) > reads(women.get(woman), shade(w));
        }

        boolean foundOut(int q, int w) {
            for (int woman = 0; woman < women.size(); woman++) {
                if (seen(q, woman, w)) {
                    return true;
                }
            }
            return false;
        }

        int sum() {
            int sum = 0;
            for (int[] w : witnesses) {
                sum += w[3];
            }
            return sum;
        }
    }

    private static int reads(int sharp, int n) {
        int read = 0;
        while (read + sharp <= n) {
            read += sharp;
        }
        return read;
    }

    private static int toBits(Set<Integer> set) {
        int bits = 0;
        for (int i : set) {
            bits |= 1 << i;
        }
        return bits;
    }

    private static Set<Integer> fromBits(int bits) {
        Set<Integer> set = new TreeSet<>();
        for (int i = 0; i < 32; i++) {
            if ((bits & 1 << i) != 0) {
                set.add(i);
            }
        }
        return set;
    }

    private static final class Parser {
        private final List<Token> tokens = new ArrayList<>();
        private int next = 0;

        Parser(int[] text) {
            int i = 0;
            while (i < text.length) {
                int from = i;
                char c = (char) text[i];
                i++;
                if (c == ' ') {
                    continue;
                }
                boolean word = c >= 'a' && c <= 'z';
                boolean number = c >= '0' && c <= '9';
                StringBuilder b = new StringBuilder().append(c);
                while (i < text.length && (word && text[i] >= 'a' && text[i] <= 'z' || number && text[i] >= '0' && text[i] <= '9')) {
                    b.append((char) text[i]);
                    i++;
                }
                tokens.add(new Token(b.toString(), from));
            }
            tokens.add(new Token("", text.length));
        }

        String here() {
            return tokens.get(next).text;
        }

        RuntimeException fault() {
            return new Fault(tokens.get(next).at);
        }

        boolean take(String text) {
            if (here().equals(text)) {
                next++;
                return true;
            }
            return false;
        }

        void must(String text) {
            if (!take(text)) {
                throw fault();
            }
        }

        int number(int least, int most) {
            String text = here();
            if (!text.matches("[0-9]{1,3}") || Integer.parseInt(text) < least || Integer.parseInt(text) > most) {
                throw fault();
            }
            next++;
            return Integer.parseInt(text);
        }

        int letters(int many) {
            String text = here();
            Set<Character> had = new HashSet<>();
            if (!text.matches("[a-z]+")) {
                throw fault();
            }
            int bits = 0;
            for (char c : text.toCharArray()) {
                if (!had.add(c) || c - 'a' >= many) {
                    throw fault();
                }
                bits += 1 << c - 'a';
            }
            next++;
            return bits;
        }

        void court(State s) {
            if (here().isEmpty()) {
                return;
            }
            for (int lines = 1;; lines++) {
                if (lines > 14) {
                    throw fault();
                }
                courtLine(s);
                if (here().isEmpty()) {
                    return;
                }
                must(";");
            }
        }

        void courtLine(State s) {
            String word = here();
            boolean full = word.equals("witness") && s.witnesses.size() == 5 || word.equals("thing") && s.things.size() == 6
                    || word.equals("ask") && s.questions.size() == 8 || word.equals("woman") && s.women.size() == 4;
            if (full || !Arrays.asList("witness", "thing", "ask", "woman", "heat", "false", "talk", "moment").contains(word)) {
                throw fault();
            }
            next++;
            if (word.equals("witness")) {
                int[] w = new int[4];
                must("skin");
                w[0] = number(0, 9);
                must("shame");
                w[1] = number(0, 9);
                w[2] = take("drink") ? number(0, 99) : 0;
                w[3] = take("shade") ? number(0, 99) : 0;
                s.row.add(s.witnesses.size());
                s.witnesses.add(w);
            } else if (word.equals("thing")) {
                int[] t = new int[2];
                must("weight");
                t[0] = number(1, 9);
                t[1] = take("touches") ? letters(s.witnesses.size()) : 0;
                if (take("so")) {
                    s.so.add(s.things.size());
                }
                s.things.add(t);
            } else if (word.equals("ask")) {
                s.questions.add(fromBits(letters(s.things.size())));
            } else if (word.equals("woman")) {
                must("sharp");
                s.women.add(number(1, 20));
            } else if (word.equals("heat")) {
                s.heat = number(0, 9);
            } else if (word.equals("false")) {
                s.lies = number(0, 100);
            } else if (word.equals("talk")) {
                s.talk = number(0, 100);
            } else {
                s.moment = number(0, 999);
            }
        }

        List<LawLine> law() {
            List<LawLine> lines = new ArrayList<>();
            if (here().isEmpty()) {
                return lines;
            }
            while (true) {
                if (lines.size() == 12 || !Arrays.asList("rise", "fall", "pass").contains(here())) {
                    throw fault();
                }
                LawLine line = new LawLine();
                line.kind = here();
                next++;
                line.n = number(0, 99);
                if (take("if")) {
                    line.holds = any(0);
                }
                lines.add(line);
                if (here().isEmpty()) {
                    return lines;
                }
                must(";");
            }
        }

        Predicate<Env> any(int depth) {
            Predicate<Env> p = all(depth);
            while (take("or")) {
                p = p.or(all(depth));
            }
            return p;
        }

        Predicate<Env> all(int depth) {
            Predicate<Env> p = atom(depth);
            while (take("and")) {
                p = p.and(atom(depth));
            }
            return p;
        }

        Predicate<Env> atom(int depth) {
            if ((here().equals("(") || here().equals("not")) && depth == 6) {
                throw fault();
            }
            if (take("not")) {
                return atom(depth + 1).negate();
            }
            if (take("(")) {
                Predicate<Env> p = any(depth + 1);
                must(")");
                return p;
            }
            if (take("touched")) {
                return e -> e.weight > 0;
            }
            if (take("red")) {
                return e -> e.s.shade(e.w) >= 50;
            }
            if (take("edge")) {
                return e -> e.s.row.get(0) == e.w || e.s.row.get(e.s.row.size() - 1) == e.w;
            }
            ToIntFunction<Env> one = sum();
            if (!here().equals("<") && !here().equals(">")) {
                throw fault();
            }
            boolean below = here().equals("<");
            next++;
            ToIntFunction<Env> other = sum();
            return e -> below ? one.applyAsInt(e) < other.applyAsInt(e) : one.applyAsInt(e) > other.applyAsInt(e);
        }

        ToIntFunction<Env> sum() {
            ToIntFunction<Env> sum = part();
            while (take("+")) {
                ToIntFunction<Env> left = sum;
                ToIntFunction<Env> right = part();
                sum = e -> left.applyAsInt(e) + right.applyAsInt(e);
            }
            return sum;
        }

        ToIntFunction<Env> part() {
            switch (here()) {
                case "witness": next++; return e -> e.w;
                case "skin": next++; return e -> e.s.witnesses.get(e.w)[0];
                case "shame": next++; return e -> e.s.witnesses.get(e.w)[1];
                case "drink": next++; return e -> e.s.witnesses.get(e.w)[2];
                case "shade": next++; return e -> e.s.shade(e.w);
                case "heat": next++; return e -> e.s.heat;
                case "weight": next++; return e -> e.weight;
                case "place": next++; return e -> e.s.row.indexOf(e.w);
                default:
                    int n = number(0, 999);
                    return e -> n;
            }
        }
    }

    private static final class Model {
        State s = new State();
        State kept = null;
        final ArrayDeque<State> acts = new ArrayDeque<>();
        final List<Integer> tape = new ArrayList<>();
        int fault = -1;

        void w(int i) {
            if (i < 0 || i >= s.witnesses.size()) {
                throw new IndexOutOfBoundsException();
            }
        }

        void t(int i) {
            if (i < 0 || i >= s.things.size()) {
                throw new IndexOutOfBoundsException();
            }
        }

        void q(int i) {
            if (i < 0 || i >= s.questions.size()) {
                throw new IndexOutOfBoundsException();
            }
        }

        void lady(int i) {
            if (i < 0 || i >= s.women.size()) {
                throw new IndexOutOfBoundsException();
            }
        }

        void bound(int n, int least, int most) {
            if (n < least || n > most) {
                throw new IllegalArgumentException();
            }
        }

        void two(int a, int b) {
            w(a);
            w(b);
            if (a == b) {
                throw new IllegalArgumentException();
            }
        }

        void act() {
            acts.push(s.copy());
            if (acts.size() > 12) {
                acts.removeLast();
            }
        }

        int[] use() {
            int[] had = new int[tape.size()];
            for (int i = 0; i < had.length; i++) {
                had[i] = tape.get(i);
            }
            tape.clear();
            return had;
        }

        int feed(int... five) {
            if (tape.size() > 380) {
                return -1;
            }
            for (int n : five) {
                for (int i = 3; i >= 0; i--) {
                    tape.add((n >> 8 * i) & 255);
                }
            }
            return tape.size();
        }

        boolean end(int n) {
            if (n < 0 || n > tape.size()) {
                return false;
            }
            while (tape.size() > n) {
                tape.remove(tape.size() - 1);
            }
            return true;
        }

        int court() {
            State draft = s.copy();
            try {
                new Parser(use()).court(draft);
            } catch (Fault f) {
                fault = f.at;
                throw new IllegalArgumentException();
            }
            fault = -1;
            if (s.texts == 12) {
                throw new UnsupportedOperationException();
            }
            s = draft;
            acts.clear();
            return ++s.texts;
        }

        int law() {
            List<LawLine> lines;
            try {
                lines = new Parser(use()).law();
            } catch (Fault f) {
                fault = f.at;
                throw new IllegalArgumentException();
            }
            fault = -1;
            s.law = lines;
            acts.clear();
            return lines.size();
        }

        int witness(int w, int what) {
            w(w);
            int bits = 0;
            switch (what) {
                case 0: case 1: case 2: case 3: return s.witnesses.get(w)[what];
                case 4: return s.row.indexOf(w);
                case 5: return s.falls(w);
                case 6: return s.sum() == 0 ? 0 : (int) Math.floor(s.shade(w) * 100 / s.sum());
                case 7:
                    for (int t = 0; t < s.things.size(); t++) {
                        bits |= (s.things.get(t)[1] & 1 << w) != 0 ? 1 << t : 0;
                    }
                    return bits;
                case 8:
                    for (int q = 0; q < s.questions.size(); q++) {
                        bits |= s.foundOut(q, w) ? 1 << q : 0;
                    }
                    return bits;
                default: throw new NoSuchElementException();
            }
        }

        int thing(int t, int what) {
            t(t);
            int bits = 0;
            switch (what) {
                case 0: case 1: return s.things.get(t)[what];
                case 2: return s.so.contains(t) ? 1 : 0;
                case 3:
                    for (int q = 0; q < s.questions.size(); q++) {
                        bits |= s.questions.get(q).contains(t) ? 1 << q : 0;
                    }
                    return bits;
                case 4: return known(t);
                default: throw new NoSuchElementException();
            }
        }

        boolean knows(int asked, int t, List<List<List<Integer>>> rises) {
            Map<List<List<Integer>>, Boolean> had = new HashMap<>();
            for (int world = 0; world < 1 << s.things.size(); world++) {
                List<List<Integer>> key = new ArrayList<>();
                for (int q : fromBits(asked)) {
                    key.add(rises.get(q).get(world));
                }
                boolean is = (world & 1 << t) != 0;
                Boolean other = had.putIfAbsent(key, is);
                if (other != null && other != is) {
                    return false;
                }
            }
            return true;
        }

        List<List<List<Integer>>> risesOfWorlds() {
            List<List<List<Integer>>> all = new ArrayList<>();
            for (int q = 0; q < s.questions.size(); q++) {
                List<List<Integer>> of = new ArrayList<>();
                for (Set<Integer> world : s.worlds()) {
                    of.add(s.allRises(q, world));
                }
                all.add(of);
            }
            return all;
        }

        int known(int t) {
            List<List<List<Integer>>> rises = risesOfWorlds();
            for (int many = 0; many <= s.questions.size(); many++) {
                for (int asked = 0; asked < 1 << s.questions.size(); asked++) {
                    if (Integer.bitCount(asked) == many && knows(asked, t, rises)) {
                        return asked;
                    }
                }
            }
            return -1;
        }

        int dark() {
            List<List<List<Integer>>> rises = risesOfWorlds();
            int bits = 0;
            for (int t = 0; t < s.things.size(); t++) {
                bits |= knows((1 << s.questions.size()) - 1, t, rises) ? 0 : 1 << t;
            }
            return bits;
        }

        int tells(int q) {
            q(q);
            Set<List<Integer>> parts = new HashSet<>();
            for (Set<Integer> world : s.worlds()) {
                parts.add(s.allRises(q, world));
            }
            return parts.size();
        }

        List<int[]> rows(int[] had, int a, int b, int most) {
            List<int[]> rows = new ArrayList<>();
            if (had.length % 3 != 0 || had.length > 45) {
                throw new IllegalArgumentException();
            }
            for (int i = 0; i < had.length; i += 3) {
                if (had[i] >= a || had[i + 1] >= b || had[i + 2] > most) {
                    throw new IllegalArgumentException();
                }
                rows.add(new int[] {had[i], had[i + 1], had[i + 2]});
            }
            return rows;
        }

        List<Set<Integer>> fitting() {
            List<int[]> rows = rows(use(), s.questions.size(), s.witnesses.size(), 255);
            List<Set<Integer>> fit = new ArrayList<>();
            for (Set<Integer> world : s.worlds()) {
                boolean all = true;
                for (int[] row : rows) {
                    all &= s.rises(row[0], world, row[1]) == row[2];
                }
                if (all) {
                    fit.add(world);
                }
            }
            return fit;
        }

        int sure() {
            List<Set<Integer>> fit = fitting();
            int bits = 0;
            for (int t = 0; t < s.things.size(); t++) {
                int n = t;
                bits |= !fit.isEmpty() && fit.stream().allMatch(x -> x.contains(n)) ? 1 << t : 0;
            }
            return bits;
        }

        int never() {
            List<Set<Integer>> fit = fitting();
            int bits = 0;
            for (int t = 0; t < s.things.size(); t++) {
                int n = t;
                bits |= fit.stream().noneMatch(x -> x.contains(n)) ? 1 << t : 0;
            }
            return bits;
        }

        int next() {
            List<Set<Integer>> fit = fitting();
            int best = -1;
            int least = Integer.MAX_VALUE;
            for (int q = 0; q < s.questions.size() && fit.size() > 1; q++) {
                Map<List<Integer>, Integer> parts = new HashMap<>();
                for (Set<Integer> world : fit) {
                    parts.merge(s.allRises(q, world), 1, Integer::sum);
                }
                int greatest = Collections.max(parts.values());
                if (greatest < least) {
                    least = greatest;
                    best = q;
                }
            }
            return best;
        }

        /** A walk by changes side by side: the ring of rows that first has a least one. */
        List<Integer> parted(int q, int[] steps) {
            Map<List<Integer>, Integer> far = new HashMap<>();
            ArrayDeque<List<Integer>> open = new ArrayDeque<>();
            far.put(s.row, 0);
            open.add(s.row);
            while (!open.isEmpty()) {
                List<Integer> row = open.poll();
                for (int i = 1; i < row.size(); i++) {
                    List<Integer> other = new ArrayList<>(row);
                    Collections.swap(other, i - 1, i);
                    if (far.putIfAbsent(other, far.get(row) + 1) == null) {
                        open.add(other);
                    }
                }
            }
            int least = far.keySet().stream().mapToInt(r -> s.shared(r, q)).min().getAsInt();
            int fewest = far.keySet().stream().filter(r -> s.shared(r, q) == least).mapToInt(far::get).min().getAsInt();
            steps[0] = fewest;
            return far.keySet().stream().filter(r -> s.shared(r, q) == least && far.get(r) == fewest)
                    .min((a, b) -> a.toString().compareTo(b.toString())).get();
        }

        int apart(int q) {
            q(q);
            int[] steps = new int[1];
            parted(q, steps);
            return steps[0];
        }

        int row(int q, int place) {
            q(q);
            w(place);
            return parted(q, new int[1]).get(place);
        }

        int mayBe(List<int[]> rows, int w, int left) {
            int n = 0;
            for (int shade = 0; shade <= 99; shade++) {
                boolean all = true;
                for (int[] row : rows) {
                    all &= row[1] != w || (left & 1 << row[0]) != 0 || reads(s.women.get(row[0]), shade) == row[2];
                }
                n += all ? 1 : 0;
            }
            return n;
        }

        int wrong() {
            List<int[]> rows = rows(use(), s.women.size(), s.witnesses.size(), 99);
            for (int many = 0; many <= s.women.size(); many++) {
                for (int left = 0; left < 1 << s.women.size(); left++) {
                    boolean all = Integer.bitCount(left) == many;
                    for (int w = 0; w < s.witnesses.size() && all; w++) {
                        all = mayBe(rows, w, left) > 0;
                    }
                    if (all) {
                        return left;
                    }
                }
            }
            return -99;
        }

        int shades(int w) {
            int[] had = use();
            w(w);
            return mayBe(rows(had, s.women.size(), s.witnesses.size(), 99), w, 0);
        }

        int vinegar(int w, int q) {
            w(w);
            q(q);
            for (int d = 0; d <= 99; d++) {
                State c = s.copy();
                c.witnesses.get(w)[2] = d;
                if (!c.foundOut(q, w)) {
                    return d;
                }
            }
            return -1;
        }

        boolean betrays(int a, int b) {
            two(a, b);
            for (int q = 0; q < s.questions.size(); q++) {
                Set<Integer> said = s.questions.get(q);
                if (s.weight(said, s.so, a) > 0 && s.weight(said, s.so, b) == 0 && s.rises(q, s.so, b) > 0) {
                    return true;
                }
            }
            return false;
        }

        int heats() {
            int best = 0;
            int most = -1;
            for (int h = 0; h <= 9; h++) {
                State c = s.copy();
                c.heat = h;
                c.fallAll();
                int n = 0;
                for (int[] w : c.witnesses) {
                    n += w[3] == 0 ? 1 : 0;
                }
                if (n > most) {
                    most = n;
                    best = h;
                }
            }
            return best;
        }

        /** All ways as numbers to the base five, the first woman the highest place, none being 0. */
        int couples(int woman) {
            if (woman != -1) {
                lady(woman);
            }
            int n = s.women.size();
            int most = -1;
            int[] first = null;
            for (int code = 0; code < (int) Math.pow(n + 1, n); code++) {
                int[] with = new int[n];
                int rest = code;
                for (int i = n - 1; i >= 0; i--) {
                    with[i] = rest % (n + 1) - 1;
                    rest /= n + 1;
                }
                boolean right = true;
                int sum = 0;
                for (int i = 0; i < n; i++) {
                    right &= with[i] == -1 || with[i] != i && with[with[i]] == i;
                    for (int w = 0; w < s.witnesses.size() && right && with[i] > i; w++) {
                        sum += reads(s.women.get(i), s.shade(w)) != reads(s.women.get(with[i]), s.shade(w)) ? 1 : 0;
                    }
                }
                if (right && sum > most) {
                    most = sum;
                    first = with;
                }
            }
            return woman == -1 ? most : first[woman];
        }

        int between(int a, int b) {
            two(a, b);
            int bits = 0;
            boolean inside = false;
            for (int w : s.row) {
                if (w == a || w == b) {
                    inside = !inside;
                } else if (inside) {
                    bits |= 1 << w;
                }
            }
            return bits;
        }

        int rests(int w, int q) {
            w(w);
            q(q);
            int[][] its = {{-s.witnesses.get(w)[1], 1}, {-Math.floorDiv(s.rises(q, s.so, w), 5), 0}};
            int[][] courts = {{4, 2}, {s.weight(s.questions.get(q), s.so, w) - 2, 0}};
            int bits = 0;
            for (int i = 0; i < 2; i++) {
                for (int c = 0; c < 2; c++) {
                    if (its[i][c] >= its[1 - i][c] && courts[i][c] >= courts[i][1 - c]) {
                        bits |= 1 << 2 * i + c;
                    }
                }
            }
            return bits;
        }

        /** Over all ways of blushing and not. */
        int odds(int n, int k) {
            bound(n, 0, 5);
            bound(k, 0, 5);
            BigInteger sum = BigInteger.ZERO;
            for (int way = 0; way < 1 << n; way++) {
                if (Integer.bitCount(way) >= k) {
                    sum = sum.add(BigInteger.valueOf(s.lies).pow(Integer.bitCount(way))
                            .multiply(BigInteger.valueOf(100 - s.lies).pow(n - Integer.bitCount(way))));
                }
            }
            return sum.multiply(BigInteger.valueOf(10000)).divide(BigInteger.valueOf(100).pow(n)).intValue();
        }

        int trial(int n, boolean all) {
            bound(n, 0, 60);
            State c = s.copy();
            c.moments(n);
            int bits = 0;
            for (int w = 0; w < c.witnesses.size(); w++) {
                bits |= c.shade(w) >= 50 ? 1 << w : 0;
            }
            return all ? c.sum() : bits;
        }

        int span(int n, boolean most) {
            bound(n, 0, 60);
            List<Integer> all = new ArrayList<>();
            for (int seed = 1; seed <= 6; seed++) {
                State c = s.copy();
                c.seed = seed;
                c.moments(n);
                for (int[] w : c.witnesses) {
                    all.add(w[3]);
                }
            }
            return all.isEmpty() ? 0 : most ? Collections.max(all) : Collections.min(all);
        }

        int pale() {
            State c = s.copy();
            for (int n = 0; n <= 60; n++) {
                if (c.sum() == 0) {
                    return n;
                }
                c.fallAll();
            }
            return -1;
        }

        int extreme(int sign) {
            int best = -1;
            for (int w = s.witnesses.size() - 1; w >= 0; w--) {
                best = best == -1 || sign * s.shade(w) >= sign * s.shade(best) ? w : best;
            }
            return best;
        }

        int weightiest() {
            int best = -1;
            for (int t = s.things.size() - 1; t >= 0; t--) {
                best = best == -1 || s.things.get(t)[0] >= s.things.get(best)[0] ? t : best;
            }
            return best;
        }

        int twins() {
            int n = 0;
            for (int[] a : s.witnesses) {
                for (int[] b : s.witnesses) {
                    n += a != b && a[0] == b[0] && a[1] == b[1] ? 1 : 0;
                }
            }
            return n / 2;
        }

        int blind() {
            int bits = 0;
            for (int woman = 0; woman < s.women.size(); woman++) {
                boolean sees = false;
                for (int q = 0; q < s.questions.size(); q++) {
                    sees |= seen(q, woman) != 0;
                }
                bits |= sees ? 0 : 1 << woman;
            }
            return bits;
        }

        int seen(int q, int woman) {
            q(q);
            lady(woman);
            int bits = 0;
            for (int w = 0; w < s.witnesses.size(); w++) {
                bits |= s.seen(q, woman, w) ? 1 << w : 0;
            }
            return bits;
        }

        int gives(int q) {
            q(q);
            int bits = 0;
            for (int w = 0; w < s.witnesses.size(); w++) {
                bits |= s.rises(q, s.so, w) > 0 && s.weight(s.questions.get(q), s.so, w) == 0 ? 1 << w : 0;
            }
            return bits;
        }

        int rises(int q, int w) {
            q(q);
            w(w);
            return s.rises(q, s.so, w);
        }

        int alone() {
            int bits = 0;
            for (Set<Integer> q : s.questions) {
                bits |= q.size() == 1 ? toBits(q) : 0;
            }
            return bits;
        }

        int ahead(int w, int n) {
            w(w);
            bound(n, 0, 60);
            State c = s.copy();
            for (int i = 0; i < n; i++) {
                c.fallAll();
            }
            return c.shade(w);
        }

        int led(int w, boolean moment) {
            w(w);
            int n = 0;
            int latest = -1;
            for (int[] row : s.log) {
                if (row[1] == w) {
                    latest = n == 0 ? row[0] : latest;
                    n++;
                }
            }
            return moment ? latest : n;
        }

        int log(int ago, int what) {
            if (what < 0 || what > 4) {
                throw new NoSuchElementException();
            }
            return ago < 0 || ago >= s.log.size() ? -2 : s.log.get(ago)[what];
        }

        int moments(int n) {
            bound(n, 1, 60);
            act();
            return s.moments(n);
        }

        int say(int q) {
            q(q);
            act();
            return s.say(q, 0);
        }

        int change(int a, int b) {
            two(a, b);
            act();
            Collections.swap(s.row, s.row.indexOf(a), s.row.indexOf(b));
            return s.row.indexOf(a);
        }

        int drink(int w, int n) {
            w(w);
            bound(n, 1, 99);
            act();
            return s.witnesses.get(w)[2] = Math.min(99, s.witnesses.get(w)[2] + n);
        }

        int heat(int n) {
            bound(n, 0, 9);
            act();
            int was = s.heat;
            s.heat = n;
            return was;
        }

        boolean tell(int t, boolean is) {
            t(t);
            act();
            return is ? s.so.add(t) : s.so.remove(t);
        }

        int words(int q, int things) {
            q(q);
            Set<Integer> said = fromBits(things);
            said.removeIf(t -> t >= s.things.size());
            if (said.isEmpty()) {
                throw new IllegalArgumentException();
            }
            act();
            return toBits(s.questions.set(q, said));
        }

        int powder(int w) {
            w(w);
            act();
            int was = s.shade(w);
            s.witnesses.get(w)[3] = 0;
            return was;
        }

        boolean undo() {
            if (acts.isEmpty()) {
                return false;
            }
            s = acts.pop();
            return true;
        }

        boolean back() {
            if (kept == null) {
                return false;
            }
            s = kept.copy();
            acts.clear();
            return true;
        }

        int count(int what) {
            int[] all = {s.witnesses.size(), s.things.size(), s.questions.size(), s.women.size(), s.texts,
                s.law == null ? -1 : s.law.size(), s.moment, s.heat, s.sum(), s.log.size(), acts.size()};
            return what < 0 || what >= all.length ? -1 : all[what];
        }
    }

    /** One object and its model, and the calls drawn for them. */
    private static final class Run {
        final int run;
        final Random r;
        final BlushCourt court = new BlushCourt();
        final Model model = new Model();
        final List<String> said = new ArrayList<>();
        int calls = 0;

        Run(int run) {
            this.run = run;
            this.r = new Random(77003L * run + 5);
        }

        static String thrown(RuntimeException e) {
            return "throws." + e.getClass().getSimpleName();
        }

        void same(String call, Call one, ModelCall other) {
            calls++;
            String got;
            String due;
            try {
                got = "" + one.on(court);
            } catch (RuntimeException e) {
                got = thrown(e);
            }
            try {
                due = "" + other.on(model);
            } catch (RuntimeException e) {
                due = thrown(e);
            }
            said.add(call + " -> " + got);
            String name = call.substring(0, call.indexOf('('));
            int[] t = tally.computeIfAbsent(name, x -> new int[2]);
            t[due.startsWith("throws.") ? 1 : 0]++;
            if (!got.equals(due)) {
                wrong++;
                System.out.println("run " + run + ": " + call + " answered " + got + ", the model " + due);
                if (wrong == 1) {
                    System.out.println("  " + String.join("\n  ", said));
                }
            }
        }

        static long is(boolean b) {
            return b ? 1 : 0;
        }

        void go() {
            if (r.nextInt(8) != 0) {
                tellCourt(opening());
            }
            for (int i = 0; calls < CALLS - 30 && wrong < 20; i++) {
                int kind = r.nextInt(100);
                if (kind < 5) {
                    tellCourt(r.nextInt(3) == 0 ? spoilt(courtLines()) : courtLines());
                } else if (kind < 10) {
                    String text = lawLines();
                    tellLaw(r.nextInt(3) == 0 ? spoilt(text) : text);
                } else if (kind < 20) {
                    fitsOrWrong();
                } else if (kind < 45) {
                    act();
                } else {
                    look();
                }
            }
        }

        /** Mostly a full court, so that later calls have something to find. */
        String opening() {
            StringBuilder b = new StringBuilder();
            int w = r.nextInt(10) == 0 ? r.nextInt(2) : 2 + r.nextInt(4);
            for (int i = 0; i < w; i++) {
                b.append("witness skin ").append(r.nextInt(4) == 0 ? r.nextInt(10) : r.nextInt(3))
                        .append(" shame ").append(r.nextInt(r.nextBoolean() ? 3 : 10));
                if (r.nextBoolean()) {
                    b.append(" shade ").append(r.nextInt(100));
                }
                b.append(';');
            }
            int t = r.nextInt(5);
            for (int i = 0; i < t; i++) {
                b.append("thing weight ").append(1 + r.nextInt(r.nextBoolean() ? 3 : 9));
                String letters = letters(w);
                if (!letters.isEmpty()) {
                    b.append(" touches ").append(letters);
                }
                b.append(r.nextBoolean() ? " so;" : ";");
            }
            int q = t == 0 ? 0 : r.nextInt(3);
            for (int i = 0; i < q; i++) {
                String letters = letters(t);
                b.append("ask ").append(letters.isEmpty() ? "a" : letters).append(';');
            }
            b.append("woman sharp ").append(1 + r.nextInt(20));
            return b.toString();
        }

        String letters(int many) {
            List<String> all = new ArrayList<>();
            for (int i = 0; i < many; i++) {
                if (r.nextBoolean()) {
                    all.add("" + (char) ('a' + i));
                }
            }
            Collections.shuffle(all, r);
            return String.join("", all);
        }

        String courtLines() {
            List<String> lines = new ArrayList<>();
            int n = r.nextInt(12) == 0 ? 12 + r.nextInt(5) : r.nextInt(7);
            int w = model.s.witnesses.size();
            int t = model.s.things.size();
            for (int i = 0; i < n; i++) {
                String letters;
                switch (r.nextInt(10)) {
                    case 0: case 1:
                        if (w == 5 && r.nextInt(20) != 0) {
                            break;
                        }
                        w++;
                        lines.add("witness skin " + r.nextInt(10) + " shame " + r.nextInt(10)
                                + (r.nextBoolean() ? " drink " + r.nextInt(20) : "") + (r.nextBoolean() ? " shade " + r.nextInt(100) : ""));
                        break;
                    case 2: case 3: case 4:
                        if (t == 6 && r.nextInt(20) != 0) {
                            break;
                        }
                        t++;
                        letters = letters(w);
                        lines.add("thing weight " + (1 + r.nextInt(9)) + (letters.isEmpty() ? "" : " touches " + letters)
                                + (r.nextBoolean() ? " so" : ""));
                        break;
                    case 5: case 6:
                        letters = letters(t);
                        if (!letters.isEmpty() && (model.s.questions.size() < 6 || r.nextInt(5) == 0)) {
                            lines.add("ask " + letters);
                        }
                        break;
                    case 7:
                        if (model.s.women.size() < 3 || r.nextInt(5) == 0) {
                            lines.add("woman sharp " + (1 + r.nextInt(20)));
                        }
                        break;
                    case 8:
                        lines.add(r.nextBoolean() ? "false " + r.nextInt(101) : "talk " + r.nextInt(101));
                        break;
                    default:
                        lines.add(r.nextBoolean() ? "heat " + r.nextInt(10) : "moment " + r.nextInt(1000));
                        break;
                }
            }
            return blanks(String.join(";", lines));
        }

        String lawLines() {
            List<String> lines = new ArrayList<>();
            int n = r.nextInt(15) == 0 ? 11 + r.nextInt(4) : r.nextInt(6);
            for (int i = 0; i < n; i++) {
                lines.add(new String[] {"rise ", "fall ", "pass "}[r.nextInt(3)] + r.nextInt(r.nextBoolean() ? 100 : 12)
                        + (r.nextInt(5) == 0 ? "" : " if " + condition(0)));
            }
            return blanks(String.join(r.nextBoolean() ? ";" : " ; ", lines));
        }

        String condition(int depth) {
            StringBuilder b = new StringBuilder(atom(depth));
            for (int i = 0; i < 3 && r.nextInt(4) == 0; i++) {
                b.append(r.nextBoolean() ? " and " : " or ").append(atom(depth));
            }
            return b.toString();
        }

        String atom(int depth) {
            int kind = r.nextInt(depth > 8 ? 6 : 10);
            switch (kind) {
                case 0: return "touched";
                case 1: return "red";
                case 2: return "edge";
                case 6: case 7: return "not " + atom(depth + 1);
                case 8: case 9: return "(" + condition(depth + 1) + ")";
                default: return sum() + (r.nextBoolean() ? " < " : " > ") + sum();
            }
        }

        String sum() {
            String[] parts = {"witness", "skin", "shame", "drink", "shade", "heat", "weight", "place"};
            StringBuilder b = new StringBuilder();
            for (int i = 0; i < 3; i++) {
                b.append(r.nextInt(3) == 0 ? "" + r.nextInt(r.nextInt(5) == 0 ? 1000 : 12) : parts[r.nextInt(parts.length)]);
                if (r.nextInt(4) != 0) {
                    break;
                }
                b.append(i < 2 ? "+" : "");
            }
            String s = b.toString();
            return s.endsWith("+") ? s + "1" : s;
        }

        String blanks(String text) {
            return r.nextInt(4) == 0 ? "  " + text.replace(";", "  ; ") + "   " : text;
        }

        String spoilt(String text) {
            StringBuilder b = new StringBuilder(text);
            String some = "abcdefghijklmnopqrstuvwxyz0123456789;;;  ()<>+NA\u00ff";
            int n = 1 + r.nextInt(2);
            for (int i = 0; i < n; i++) {
                int at = r.nextInt(b.length() + 1);
                switch (r.nextInt(4)) {
                    case 0: b.insert(at, some.charAt(r.nextInt(some.length()))); break;
                    case 1: b.setLength(at); break;
                    case 2:
                        if (at < b.length()) {
                            b.deleteCharAt(at);
                        }
                        break;
                    default:
                        if (at < b.length()) {
                            b.setCharAt(at, some.charAt(r.nextInt(some.length())));
                        }
                        break;
                }
            }
            return b.toString();
        }

        void feed(int[] bytes) {
            for (int i = 0; i < bytes.length; i += 20) {
                int[] five = new int[5];
                for (int k = 0; k < 20; k++) {
                    five[k / 4] = five[k / 4] << 8 | (i + k < bytes.length ? bytes[i + k] : r.nextInt(256));
                }
                same("feed(" + five[0] + ", ..)", c -> c.feed(five[0], five[1], five[2], five[3], five[4]), m -> m.feed(five));
            }
            same("end(" + bytes.length + ")", c -> is(c.end(bytes.length)), m -> is(m.end(bytes.length)));
        }

        void feedText(String text) {
            said.add("text " + text);
            feed(text.substring(0, Math.min(400, text.length())).chars().toArray());
        }

        void tellCourt(String text) {
            feedText(text);
            same("court()", c -> c.court(), m -> m.court());
            same("fault()", c -> c.fault(), m -> m.fault);
        }

        void tellLaw(String text) {
            feedText(text);
            same("law()", c -> c.law(), m -> m.law());
            same("fault()", c -> c.fault(), m -> m.fault);
        }

        /** Rows that are so in some world or of some shade, at times spoilt. */
        void fitsOrWrong() {
            State s = model.s;
            boolean fits = r.nextBoolean();
            int firsts = fits ? s.questions.size() : s.women.size();
            int n = r.nextInt(12) == 0 ? 14 + r.nextInt(3) : r.nextInt(60) == 0 ? 40 + r.nextInt(90) : r.nextInt(r.nextBoolean() ? 3 : 7);
            if (firsts == 0 || s.witnesses.isEmpty()) {
                n = r.nextInt(2);
            }
            int[] bytes = new int[3 * n];
            Set<Integer> world = fromBits(r.nextInt(1 << s.things.size()));
            int[] shades = r.ints(5, 0, 100).toArray();
            for (int i = 0; i < n && firsts > 0 && !s.witnesses.isEmpty(); i++) {
                int a = r.nextInt(firsts);
                int w = r.nextInt(s.witnesses.size());
                bytes[3 * i] = a;
                bytes[3 * i + 1] = w;
                bytes[3 * i + 2] = Math.min(255, fits ? s.rises(a, world, w) : reads(s.women.get(a), shades[w]));
            }
            if (n > 0 && r.nextInt(4) == 0) {
                int at = r.nextInt(bytes.length);
                bytes[at] = r.nextInt(r.nextBoolean() ? 256 : 6);
            }
            if (r.nextInt(20) == 0) {
                bytes = Arrays.copyOf(bytes, bytes.length + 1);
            }
            feed(bytes);
            int witness = index(s.witnesses.size());
            switch (fits ? r.nextInt(4) : 4 + r.nextInt(2)) {
                case 0: same("fits()", c -> c.fits(), m -> m.fitting().size()); break;
                case 1: same("sure()", c -> c.sure(), m -> m.sure()); break;
                case 2: same("never()", c -> c.never(), m -> m.never()); break;
                case 3: same("next()", c -> c.next(), m -> m.next()); break;
                case 4: same("wrong()", c -> c.wrong(), m -> m.wrong()); break;
                default: same("shades(" + witness + ")", c -> c.shades(witness), m -> m.shades(witness)); break;
            }
        }

        int index(int many) {
            switch (r.nextInt(30)) {
                case 0: return many;
                case 1: return -1 - r.nextInt(2);
                case 2: return r.nextBoolean() ? Integer.MAX_VALUE : Integer.MIN_VALUE;
                default: return many == 0 ? 0 : r.nextInt(many);
            }
        }

        int number(int least, int most) {
            switch (r.nextInt(25)) {
                case 0: return most + 1;
                case 1: return least - 1;
                case 2: return r.nextInt();
                case 3: return most;
                case 4: return least;
                default: return least + r.nextInt(most - least + 1);
            }
        }

        void act() {
            State s = model.s;
            int w = index(s.witnesses.size());
            int o = index(s.witnesses.size());
            int q = index(s.questions.size());
            int t = index(s.things.size());
            int n = number(1, 99);
            int h = number(0, 9);
            int moments = number(1, 60);
            int few = r.nextInt(2) == 0 ? moments : number(1, 3);
            int bits = r.nextInt(8) == 0 ? r.nextInt() : r.nextInt(64);
            boolean is = r.nextBoolean();
            switch (r.nextInt(14)) {
                case 0: case 1: same("moments(" + few + ")", c -> c.moments(few), m -> m.moments(few)); break;
                case 2: case 3: same("say(" + q + ")", c -> c.say(q), m -> m.say(q)); break;
                case 4: same("change(" + w + ", " + o + ")", c -> c.change(w, o), m -> m.change(w, o)); break;
                case 5: same("drink(" + w + ", " + n + ")", c -> c.drink(w, n), m -> m.drink(w, n)); break;
                case 6: same("heat(" + h + ")", c -> c.heat(h), m -> m.heat(h)); break;
                case 7: case 8: same("tell(" + t + ", " + is + ")", c -> is(c.tell(t, is)), m -> is(m.tell(t, is))); break;
                case 9: same("words(" + q + ", " + bits + ")", c -> c.words(q, bits), m -> m.words(q, bits)); break;
                case 10: same("powder(" + w + ")", c -> c.powder(w), m -> m.powder(w)); break;
                case 11: same("seed(" + bits + ")", c -> c.seed(bits), m -> {
                    int was = m.s.seed;
                    m.s.seed = bits;
                    return was;
                }); break;
                case 12: same("undo()", c -> is(c.undo()), m -> is(m.undo())); break;
                default:
                    if (r.nextInt(3) != 0) {
                        same("image()", c -> {
                            c.image();
                            return 0;
                        }, m -> {
                            m.kept = m.s.copy();
                            return 0;
                        });
                    } else {
                        same("back()", c -> is(c.back()), m -> is(m.back()));
                    }
                    break;
            }
        }

        void look() {
            State s = model.s;
            int w = index(s.witnesses.size());
            int o = index(s.witnesses.size());
            int q = index(s.questions.size());
            int t = index(s.things.size());
            int x = index(s.women.size());
            int n = number(0, 60);
            int five = number(0, 5);
            int k = number(0, 5);
            boolean is = r.nextBoolean();
            int what = number(0, 10);
            String wo = "(" + w + ", " + o + ")";
            String wq = "(" + w + ", " + q + ")";
            switch (r.nextInt(44)) {
                case 0: case 1: case 2: same("witness(" + w + ", " + what + ")", c -> c.witness(w, what), m -> m.witness(w, what)); break;
                case 3: case 4: same("thing(" + t + ", " + what % 6 + ")", c -> c.thing(t, what % 6), m -> m.thing(t, what % 6)); break;
                case 5: same("asks(" + q + ")", c -> c.asks(q), m -> {
                    m.q(q);
                    return toBits(m.s.questions.get(q));
                }); break;
                case 6: same("sharp(" + x + ")", c -> c.sharp(x), m -> {
                    m.lady(x);
                    return m.s.women.get(x);
                }); break;
                case 7: same("stands(" + w + ")", c -> c.stands(w), m -> {
                    m.w(w);
                    return m.s.row.get(w);
                }); break;
                case 8: same("rises(" + q + ", " + w + ")", c -> c.rises(q, w), m -> m.rises(q, w)); break;
                case 9: same("seen(" + q + ", " + x + ")", c -> c.seen(q, x), m -> m.seen(q, x)); break;
                case 10: same("gives(" + q + ")", c -> c.gives(q), m -> m.gives(q)); break;
                case 11: same("writes(" + x + ", " + w + ")", c -> c.writes(x, w), m -> {
                    m.lady(x);
                    m.w(w);
                    return reads(m.s.women.get(x), m.s.shade(w));
                }); break;
                case 12: same("pale()", c -> c.pale(), m -> m.pale()); break;
                case 13: same("reddest()", c -> c.reddest(), m -> m.extreme(1)); break;
                case 14: same("palest()", c -> c.palest(), m -> m.extreme(-1)); break;
                case 15: same("dark()", c -> c.dark(), m -> m.dark()); break;
                case 16: same("tells(" + q + ")", c -> c.tells(q), m -> m.tells(q)); break;
                case 17: same("shared(" + q + ")", c -> c.shared(q), m -> {
                    m.q(q);
                    return m.s.shared(m.s.row, q);
                }); break;
                case 18: same("apart(" + q + ")", c -> c.apart(q), m -> m.apart(q)); break;
                case 19: same("row(" + q + ", " + w + ")", c -> c.row(q, w), m -> m.row(q, w)); break;
                case 20: case 21: same("vinegar" + wq, c -> c.vinegar(w, q), m -> m.vinegar(w, q)); break;
                case 22: same("betrays" + wo, c -> is(c.betrays(w, o)), m -> is(m.betrays(w, o))); break;
                case 23: same("heats()", c -> c.heats(), m -> m.heats()); break;
                case 24: case 25: same("couples(" + x + ")", c -> c.couples(x), m -> m.couples(x)); break;
                case 26: same("couples(-1)", c -> c.couples(-1), m -> m.couples(-1)); break;
                case 27: same("between" + wo, c -> c.between(w, o), m -> m.between(w, o)); break;
                case 28: same("alone()", c -> c.alone(), m -> m.alone()); break;
                case 29: same("rests" + wq, c -> c.rests(w, q), m -> m.rests(w, q)); break;
                case 30: same("odds(" + five + ", " + k + ")", c -> c.odds(five, k), m -> m.odds(five, k)); break;
                case 31: same("weightiest()", c -> c.weightiest(), m -> m.weightiest()); break;
                case 32: same("twins()", c -> c.twins(), m -> m.twins()); break;
                case 33: same("blind()", c -> c.blind(), m -> m.blind()); break;
                case 34: same("so()", c -> c.so(), m -> toBits(m.s.so)); break;
                case 35: same("ahead(" + w + ", " + n + ")", c -> c.ahead(w, n), m -> m.ahead(w, n)); break;
                case 36: same("trial(" + n + ", " + is + ")", c -> c.trial(n, is), m -> m.trial(n, is)); break;
                case 37: same("span(" + n + ", " + is + ")", c -> c.span(n, is), m -> m.span(n, is)); break;
                case 38: same("led(" + w + ", " + is + ")", c -> c.led(w, is), m -> m.led(w, is)); break;
                case 39: case 40: same("log(" + n + ", " + k + ")", c -> c.log(n, k), m -> m.log(n, k)); break;
                case 41: same("feed(" + n + ", ..)", c -> c.feed(n, w, q, t, x), m -> m.feed(n, w, q, t, x)); break;
                case 42: same("end(" + 7 * n + ")", c -> is(c.end(7 * n)), m -> is(m.end(7 * n))); break;
                default: same("count(" + what + ")", c -> c.count(what), m -> m.count(what)); break;
            }
        }
    }
}
