import java.util.ArrayList;
import java.util.List;
import java.util.Random;
import java.util.TreeSet;

/** Random runs of calls; each answer is compared with that of a plain model, which tries every order in full. */
public final class ModelTests {
    private static final int RUNS = 1500, CALLS = 160;
    private static int wrong = 0;

    public static void main(String[] args) {
        for (int seed = 0; seed < RUNS && wrong < 5; seed++) {
            new Run(seed).go();
        }
        System.out.println(wrong == 0 ? "all answers are the model's" : wrong + " runs differ");
        if (wrong != 0) {
            System.exit(1);
        }
    }

    // ---- the model

    private static final class Lot {
        int kind, more, colour = -1, stamp = -1;
        TreeSet<Integer> beside = new TreeSet<>();
    }

    private static final class Place {
        List<Lot> lots = new ArrayList<>();
        int builds, law;

        Place copy() {
            Place other = new Place();
            other.builds = builds;
            other.law = law;
            for (Lot lot : lots) {
                Lot twin = new Lot();
                twin.kind = lot.kind;
                twin.more = lot.more;
                twin.colour = lot.colour;
                twin.stamp = lot.stamp;
                twin.beside.addAll(lot.beside);
                other.lots.add(twin);
            }
            return other;
        }

        int would(int l) {
            TreeSet<Integer> taken = new TreeSet<>();
            for (int other : lots.get(l).beside) {
                if (lots.get(other).colour >= 0 && lots.get(other).kind != 4) {
                    taken.add(lots.get(other).colour);
                }
            }
            int kind = lots.get(l).kind;
            int more = lots.get(l).more;
            if (kind == 3 && taken.size() > more % 4) {
                return Math.min(11, taken.last() + 1);
            }
            if (kind == 1 || kind == 3) {
                taken.add(0);
            } else if (kind == 2 || kind == 4) {
                taken.add(more % 5);
            } else if (kind == 5) {
                taken.clear();
            }
            int colour = 0;
            while (taken.contains(colour)) {
                colour++;
            }
            return colour;
        }

        int build(int l) {
            int colour = would(l);
            lots.get(l).colour = colour;
            lots.get(l).stamp = ++builds;
            return colour;
        }

        int colours() {
            TreeSet<Integer> all = new TreeSet<>();
            for (Lot lot : lots) {
                if (lot.colour >= 0) {
                    all.add(lot.colour);
                }
            }
            return all.size();
        }

        List<Integer> those(boolean built) {
            List<Integer> found = new ArrayList<>();
            for (int l = 0; l < lots.size(); l++) {
                if (lots.get(l).colour >= 0 == built) {
                    found.add(l);
                }
            }
            return found;
        }

        boolean two(int a, int b) {
            return has(a) && has(b) && a != b;
        }

        boolean has(int l) {
            return l >= 0 && l < lots.size();
        }
    }

    private static List<List<Integer>> permutations(List<Integer> of) {
        List<List<Integer>> all = new ArrayList<>();
        if (of.isEmpty()) {
            all.add(new ArrayList<>());
        }
        for (int i = 0; i < of.size(); i++) {
            List<Integer> rest = new ArrayList<>(of);
            Integer first = rest.remove(i);
            for (List<Integer> tail : permutations(rest)) {
                tail.add(0, first);
                all.add(tail);
            }
        }
        return all;
    }

    private static int digits(List<Integer> order) {
        int number = 0;
        for (int l : order) {
            number = number * 10 + l + 1;
        }
        return number;
    }

    // ---- texts, read by a stack of what is open, valued by splitting at the loosest sign

    private static final List<String> NAMES = List.of("colour", "lot", "beside", "order", "more", "lots");
    private static final List<String> KEYS = List.of("worth", "waits", "moves", "or", "and", "not");

    private static final class Script {
        int fault = -1;
        List<List<String>> parts = new ArrayList<>();

        Script(String text) {
            List<String> tokens = new ArrayList<>();
            List<Integer> places = new ArrayList<>();
            int i = 0;
            while (i < text.length()) {
                char c = text.charAt(i);
                int from = i;
                if (c == ' ' || c == '\n') {
                    i++;
                    continue;
                }
                while (i < text.length() && (sort(c) == 'w' || sort(c) == 'n') && sort(text.charAt(i)) == sort(c)) {
                    i++;
                }
                i = Math.max(i, from + 1);
                String token = text.substring(from, i);
                boolean good = sort(c) == 's' || sort(c) == 'n' && token.length() <= 4
                        || NAMES.contains(token) || KEYS.contains(token);
                tokens.add(good ? token : "?");
                places.add(from);
            }
            int bad = check(tokens);
            if (bad >= 0) {
                fault = bad < tokens.size() ? places.get(bad) : text.length();
            }
        }

        static char sort(char c) {
            return c >= 'a' && c <= 'z' ? 'w' : c >= '0' && c <= '9' ? 'n' : "();+-*<=".indexOf(c) >= 0 ? 's' : '?';
        }

        /** The number of the first token that can't stand where it does; -1: none. */
        private int check(List<String> tokens) {
            int t = 0;
            for (int part = 0; part < 3; part++) {
                if (t >= tokens.size() || !tokens.get(t).equals(KEYS.get(part))) {
                    return t;
                }
                t++;
                int from = t;
                // '(' 'n' '-' are open; 'c' marks that a comparison stood there
                StringBuilder open = new StringBuilder();
                boolean operand = true;
                boolean notMayStand = true;
                boolean ended = false;
                while (!ended) {
                    String token = t < tokens.size() ? tokens.get(t) : "";
                    int deep = open.toString().replace("c", "").length();
                    if (operand) {
                        boolean opens = token.equals("(") || token.equals("-") || token.equals("not") && notMayStand;
                        if (opens && deep >= 5) {
                            return t;
                        }
                        if (opens) {
                            open.append(token.charAt(0));
                            notMayStand = !token.equals("-");
                        } else if (!token.isEmpty() && (sort(token.charAt(0)) == 'n' || NAMES.contains(token))) {
                            operand = false;
                            drop(open, "-");
                        } else {
                            return t;
                        }
                    } else if (token.equals(";")) {
                        drop(open, "nc");
                        if (open.length() > 0) {
                            return t;
                        }
                        ended = true;
                    } else if (token.equals(")")) {
                        drop(open, "nc");
                        if (open.length() == 0) {
                            return t;
                        }
                        open.setLength(open.length() - 1);
                        drop(open, "-");
                    } else if (token.equals("and") || token.equals("or")) {
                        drop(open, "nc");
                        operand = true;
                        notMayStand = true;
                    } else if (token.equals("<") || token.equals("=")) {
                        if (open.length() > 0 && open.charAt(open.length() - 1) == 'c') {
                            return t;
                        }
                        open.append('c');
                        operand = true;
                        notMayStand = false;
                    } else if (token.equals("+") || token.equals("-") || token.equals("*")) {
                        operand = true;
                        notMayStand = false;
                    } else {
                        return t;
                    }
                    t++;
                }
                parts.add(tokens.subList(from, t - 1));
            }
            return t < tokens.size() ? t : -1;
        }

        private static void drop(StringBuilder open, String what) {
            while (open.length() > 0 && what.indexOf(open.charAt(open.length() - 1)) >= 0) {
                open.setLength(open.length() - 1);
            }
        }

        static int value(List<String> e, int[] names) {
            for (String signs : new String[] {"or", "and"}) {
                int at = last(e, signs);
                if (at >= 0) {
                    boolean a = value(e.subList(0, at), names) != 0;
                    boolean b = value(e.subList(at + 1, e.size()), names) != 0;
                    return (signs.equals("or") ? a || b : a && b) ? 1 : 0;
                }
            }
            if (e.get(0).equals("not")) {
                return value(e.subList(1, e.size()), names) == 0 ? 1 : 0;
            }
            for (String signs : new String[] {"<=", "+-", "*"}) {
                int at = last(e, signs);
                if (at >= 0) {
                    int a = value(e.subList(0, at), names);
                    int b = value(e.subList(at + 1, e.size()), names);
                    switch (e.get(at)) {
                        case "<": return a < b ? 1 : 0;
                        case "=": return a == b ? 1 : 0;
                        case "+": return a + b;
                        case "-": return a - b;
                        default: return a * b;
                    }
                }
            }
            if (e.get(0).equals("-")) {
                return -value(e.subList(1, e.size()), names);
            }
            if (e.get(0).equals("(")) {
                return value(e.subList(1, e.size() - 1), names);
            }
            int name = NAMES.indexOf(e.get(0));
            return name >= 0 ? names[name] : Integer.parseInt(e.get(0));
        }

        /** The last of these signs that joins two, in no parentheses. */
        private static int last(List<String> e, String signs) {
            int found = -1;
            int deep = 0;
            for (int i = 0; i < e.size(); i++) {
                String token = e.get(i);
                deep += token.equals("(") ? 1 : token.equals(")") ? -1 : 0;
                boolean one = signs.equals("or") || signs.equals("and") ? token.equals(signs)
                        : token.length() == 1 && signs.contains(token);
                boolean joins = i > 0 && (e.get(i - 1).equals(")") || Script.sort(e.get(i - 1).charAt(0)) == 'n'
                        || NAMES.contains(e.get(i - 1)));
                if (deep == 0 && one && joins) {
                    found = i;
                }
            }
            return found;
        }
    }

    private static final class Model {
        Place town = new Place();
        Place image;
        List<Script> texts = new ArrayList<>();
        StringBuilder tape = new StringBuilder();
        Object[] sheets = new Object[4];

        Model() {
            texts.add(new Script("worth 20 - colour * 4 ; waits order ; moves 1 ;"));
        }

        int says(int part, Place at, int l, int colour, int order) {
            Lot lot = at.lots.get(l);
            int[] names = {colour, l, lot.beside.size(), order, lot.more, at.lots.size()};
            int value = Script.value(texts.get(at.law).parts.get(part), names);
            return part == 2 ? value == 0 ? 0 : 1 : value < 0 ? 0 : value > 99 ? 99 : value;
        }

        int count(int what) {
            int bits = 0;
            int ends = 0;
            for (int l = 0; l < town.lots.size(); l++) {
                bits += town.lots.get(l).colour >= 0 ? 1 << l : 0;
                ends += town.lots.get(l).beside.size();
            }
            int[] answers = {town.lots.size(), bits, town.colours(), ends / 2, texts.size(), town.law, tape.length()};
            return what < 0 || what > 6 ? -2 : answers[what];
        }

        int feed(int n, int... bytes) {
            for (int b : bytes) {
                if (b < 0 || b > 255) {
                    return -2;
                }
            }
            if (n < 1 || n > 5) {
                return -2;
            }
            if (tape.length() + n > 160) {
                return -4;
            }
            for (int i = 0; i < n; i++) {
                tape.append((char) bytes[i]);
            }
            return tape.length();
        }

        int text() {
            if (texts.size() == 6) {
                return -4;
            }
            Script script = new Script(tape.toString());
            tape.setLength(0);
            if (script.fault >= 0) {
                return -100 - script.fault;
            }
            texts.add(script);
            return texts.size() - 1;
        }

        int force(int t) {
            if (t < 0 || t >= texts.size()) {
                return -2;
            }
            int was = town.law;
            town.law = t;
            return was;
        }

        int asks(int part, int l, int c, int order) {
            if (!town.has(l)) {
                return -5;
            }
            return part < 0 || part > 2 || c < 0 || c > 11 || order < 0 || order > 7 ? -7 : says(part, town, l, c, order);
        }

        int lot(int kind, int more, int others) {
            int n = town.lots.size();
            if (kind < 0 || kind > 5 || more < 0 || more > 9 || others < 0 || others >= 1 << n) {
                return -2;
            }
            if (n == 7) {
                return -4;
            }
            Lot lot = new Lot();
            lot.kind = kind;
            lot.more = more;
            town.lots.add(lot);
            for (int l = 0; l < n; l++) {
                if ((others & 1 << l) != 0) {
                    lot.beside.add(l);
                    town.lots.get(l).beside.add(n);
                }
            }
            return n;
        }

        int told(int l, int what) {
            if (!town.has(l)) {
                return -5;
            }
            Lot lot = town.lots.get(l);
            int bits = 0;
            for (int other : lot.beside) {
                bits += 1 << other;
            }
            int[] answers = {lot.kind, lot.more, bits, lot.colour, lot.colour < 0 ? -1 : lot.stamp};
            return what < 0 || what > 4 ? -7 : answers[what];
        }

        int build(int l) {
            return !town.has(l) ? -5 : town.lots.get(l).colour >= 0 ? -3 : town.build(l);
        }

        int would(int l) {
            return !town.has(l) ? -5 : town.would(l);
        }

        int pull(int l) {
            if (!town.has(l)) {
                return -5;
            }
            int had = town.lots.get(l).colour;
            town.lots.get(l).colour = -1;
            return had < 0 ? -3 : had;
        }

        int paint(int l, int c) {
            if (!town.has(l)) {
                return -5;
            }
            if (c < 0 || c > 11) {
                return -7;
            }
            int had = town.lots.get(l).colour;
            if (had < 0) {
                town.lots.get(l).stamp = ++town.builds;
            }
            town.lots.get(l).colour = c;
            return had;
        }

        int laneRefusal(int a, int b) {
            return !town.two(a, b) ? -5 : town.lots.get(a).beside.contains(b) ? -3 : 0;
        }

        int mover(Place at, int a, int b) {
            Lot one = at.lots.get(a);
            Lot two = at.lots.get(b);
            if (one.colour < 0 || one.colour != two.colour) {
                return -1;
            }
            int younger = one.stamp > two.stamp ? a : b;
            return says(2, at, younger, one.colour, 0) == 1 ? younger : -1;
        }

        int join(Place at, int a, int b) {
            at.lots.get(a).beside.add(b);
            at.lots.get(b).beside.add(a);
            int moves = 0;
            int mover = mover(at, a, b);
            while (mover >= 0) {
                at.lots.get(mover).colour = at.would(mover);
                if (++moves == 20) {
                    return 20;
                }
                int next = -1;
                for (int other : at.lots.get(mover).beside) {
                    next = next >= 0 ? next : mover(at, mover, other);
                }
                mover = next;
            }
            return moves;
        }

        int lane(int a, int b) {
            int refusal = laneRefusal(a, b);
            return refusal != 0 ? refusal : join(town, a, b);
        }

        int close(int a, int b) {
            if (!town.two(a, b)) {
                return -5;
            }
            town.lots.get(b).beside.remove(a);
            return town.lots.get(a).beside.remove(b) ? 1 : 0;
        }

        int idle(int what) {
            int[] answers = {0, -1, 0};
            for (int a = 0; a < town.lots.size(); a++) {
                for (int b = a + 1; b < town.lots.size(); b++) {
                    if (laneRefusal(a, b) == 0) {
                        int moves = join(town.copy(), a, b);
                        if (moves == 0) {
                            answers[0]++;
                        } else if (moves > answers[2]) {
                            answers[1] = 10 * a + b;
                            answers[2] = moves;
                        }
                    }
                }
            }
            return what < 0 || what > 2 ? -2 : answers[what];
        }

        Place after(List<Integer> order) {
            Place at = town.copy();
            for (int l : order) {
                at.build(l);
            }
            return at;
        }

        int order(int sort, int what) {
            if (sort < 0 || sort > 1 || what < 0 || what > 1) {
                return -2;
            }
            List<Integer> best = null;
            int bestColours = 0;
            for (List<Integer> order : permutations(town.those(false))) {
                int colours = after(order).colours();
                if (best == null || (sort == 0 ? colours < bestColours : colours > bestColours)) {
                    best = order;
                    bestColours = colours;
                }
            }
            return what == 0 ? bestColours : digits(best);
        }

        int fewest() {
            int n = town.lots.size();
            for (int k = 0; k < 7; k++) {
                if (paintable(new int[n], 0, k)) {
                    return k;
                }
            }
            return 7;
        }

        boolean paintable(int[] colours, int l, int k) {
            if (l == colours.length) {
                return true;
            }
            for (int c = 0; c < k; c++) {
                boolean free = true;
                for (int other : town.lots.get(l).beside) {
                    free &= other > l || colours[other] != c;
                }
                colours[l] = c;
                if (free && paintable(colours, l + 1, k)) {
                    return true;
                }
            }
            return false;
        }

        int size(int s) {
            return sheets[s] instanceof byte[] b ? b.length : sheets[s] instanceof short[] h ? h.length
                    : ((int[]) sheets[s]).length;
        }

        int cellAt(int s, int i) {
            return sheets[s] instanceof byte[] b ? b[i] : sheets[s] instanceof short[] h ? h[i] : ((int[]) sheets[s])[i];
        }

        int sortOf(int s) {
            return sheets[s] == null ? -1 : sheets[s] instanceof byte[] ? 0 : sheets[s] instanceof short[] ? 1 : 2;
        }

        /** The refusal, or 0: then the order stands in the list. */
        int orderRefusal(int s, int but, List<Integer> order) {
            if (s < 0 || s > 3) {
                return -2;
            }
            if (sheets[s] == null) {
                return -11;
            }
            for (int i = 0; i < size(s); i++) {
                order.add(cellAt(s, i));
            }
            List<Integer> due = town.those(false);
            due.remove((Integer) but);
            List<Integer> sorted = new ArrayList<>(order);
            sorted.sort(null);
            return sorted.equals(due) ? 0 : -2;
        }

        int paints(int s, int what) {
            List<Integer> order = new ArrayList<>();
            int refusal = orderRefusal(s, -1, order);
            if (refusal != 0) {
                return refusal;
            }
            Place at = after(order);
            return what == 0 ? at.colours() : at.has(what - 1) ? at.lots.get(what - 1).colour : -7;
        }

        int raise(int s) {
            List<Integer> order = new ArrayList<>();
            int refusal = orderRefusal(s, -1, order);
            if (refusal != 0) {
                return refusal;
            }
            town = after(order);
            return town.colours();
        }

        int when(int l, int s, int what) {
            if (!town.has(l)) {
                return -5;
            }
            if (town.lots.get(l).colour >= 0) {
                return -3;
            }
            List<Integer> order = new ArrayList<>();
            int refusal = orderRefusal(s, l, order);
            if (refusal != 0) {
                return refusal;
            }
            int best = -1000;
            int bestN = -1;
            for (int n = 0; n <= order.size(); n++) {
                Place at = after(order.subList(0, n));
                int colour = at.build(l);
                int gain = says(0, at, l, colour, n) - says(1, at, l, colour, n);
                if (gain > best) {
                    best = gain;
                    bestN = n;
                }
            }
            return what == 0 ? bestN : what == 1 ? best : -7;
        }

        int rule(int rule, int what) {
            if (rule < 0 || rule > 2 || what < 0 || what > 1) {
                return -2;
            }
            List<Integer> order = town.those(false);
            if (rule > 0) {
                order.sort((a, b) -> (rule == 1 ? -1 : 1)
                        * (town.lots.get(a).beside.size() - town.lots.get(b).beside.size()));
            }
            return what == 0 ? after(order).colours() : digits(order);
        }

        int ahead(int a, int b) {
            if (!town.two(a, b) || town.lots.get(a).colour >= 0 || town.lots.get(b).colour >= 0) {
                return -100000;
            }
            List<Integer> order = town.those(false);
            List<Integer> changed = new ArrayList<>(order);
            changed.set(order.indexOf(a), b);
            changed.set(order.indexOf(b), a);
            Place one = after(order);
            Place two = after(changed);
            return says(0, two, a, two.lots.get(a).colour, changed.indexOf(a))
                    - says(0, one, a, one.lots.get(a).colour, order.indexOf(a));
        }

        /** How many orders fit, and the first. */
        int[] fits(int outlaw) {
            int[] found = {0, -1};
            for (List<Integer> order : permutations(town.those(true))) {
                Place at = town.copy();
                for (Lot lot : at.lots) {
                    lot.colour = -1;
                }
                boolean fit = true;
                for (int l : order) {
                    int due = town.lots.get(l).colour;
                    fit &= at.would(l) == due || l == outlaw;
                    at.lots.get(l).colour = due;
                }
                if (fit && found[0]++ == 0) {
                    found[1] = digits(order);
                }
            }
            return found;
        }

        int built(int what) {
            return what < 0 || what > 1 ? -2 : fits(-1)[what];
        }

        int blame() {
            int bits = 0;
            if (fits(-1)[0] == 0) {
                for (int l = 0; l < town.lots.size(); l++) {
                    bits += fits(l)[0] > 0 ? 1 << l : 0;
                }
            }
            return bits;
        }

        int mapRefusal(int s) {
            return s < 0 || s > 3 ? -2 : sheets[s] == null ? -11 : size(s) != town.lots.size() ? -2 : 0;
        }

        int otherwise(Place at, int s) {
            for (int l = 0; l < at.lots.size(); l++) {
                if (at.lots.get(l).colour != cellAt(s, l)) {
                    return l;
                }
            }
            return -1;
        }

        int judge(int s) {
            int refusal = mapRefusal(s);
            return refusal != 0 ? refusal : otherwise(town, s);
        }

        int plans(int s, int what) {
            int refusal = mapRefusal(s);
            if (refusal != 0) {
                return refusal;
            }
            if (what < 0 || what > 1) {
                return -7;
            }
            int many = 0;
            int first = -1;
            for (List<Integer> order : permutations(town.those(false))) {
                if (otherwise(after(order), s) < 0 && many++ == 0) {
                    first = digits(order);
                }
            }
            return what == 0 ? many : first;
        }

        int film(int s) {
            if (s < 0 || s > 3) {
                return -2;
            }
            int[] row = new int[town.lots.size()];
            for (int l = 0; l < row.length; l++) {
                row[l] = town.lots.get(l).colour;
            }
            sheets[s] = row;
            return row.length;
        }

        int laws(int a, int b, int many) {
            int refusal = laneRefusal(a, b);
            if (refusal != 0) {
                return refusal;
            }
            if (many < 0 || many > 20) {
                return -7;
            }
            int bits = 0;
            for (int t = 0; t < texts.size(); t++) {
                Place at = town.copy();
                at.law = t;
                bits += join(at, a, b) == many ? 1 << t : 0;
            }
            return bits;
        }

        int coloursDrawn(int seed) {
            Place at = town.copy();
            long lot = seed + 1;
            while (!at.those(false).isEmpty()) {
                lot = lot * 48271 % 2147483647;
                List<Integer> left = at.those(false);
                at.build(left.get((int) (lot % left.size())));
            }
            return at.colours();
        }

        int drawn(int seed) {
            return seed < 0 || seed > 99999 ? -2 : coloursDrawn(seed);
        }

        long odds(int seed, int seeds, int n, int part) {
            if (seed < 0 || seed > 99999 || seeds < 1 || seeds > 40 || n < 0 || n > 7 || part < 0 || part > 1) {
                return FirstColour.NO;
            }
            int hits = 0;
            for (int i = 0; i < seeds; i++) {
                hits += coloursDrawn(seed + i) <= n ? 1 : 0;
            }
            for (int below = 1; ; below++) {
                if (hits * below % seeds == 0) {
                    return part == 0 ? hits * below / seeds : below;
                }
            }
        }

        int image() {
            image = town.copy();
            return town.lots.size();
        }

        int back() {
            if (image == null) {
                return -3;
            }
            town = image.copy();
            return town.lots.size();
        }

        int sheet(int s, int sort, int n) {
            if (s < 0 || s > 3 || sort < -1 || sort > 2 || sort >= 0 && n > 40) {
                return -2;
            }
            if (sort >= 0 && n < 0) {
                return -14;
            }
            sheets[s] = sort < 0 ? null : sort == 0 ? new byte[n] : sort == 1 ? new short[n] : (Object) new int[n];
            return 1;
        }

        int cell(int s, int i, int v) {
            if (s < 0 || s > 3) {
                return -2;
            }
            if (sheets[s] == null) {
                return -11;
            }
            if (i < 0 || i >= size(s)) {
                return -12;
            }
            if (sheets[s] instanceof byte[] b) {
                b[i] = (byte) v;
            } else if (sheets[s] instanceof short[] h) {
                h[i] = (short) v;
            } else {
                ((int[]) sheets[s])[i] = v;
            }
            return 1;
        }

        int copy(int s, int i, int other, int j, int n) {
            if (s < 0 || s > 3 || other < 0 || other > 3) {
                return -2;
            }
            if (sheets[s] == null || sheets[other] == null) {
                return -11;
            }
            if (sortOf(s) != sortOf(other)) {
                return -13;
            }
            try {
                System.arraycopy(sheets[s], i, sheets[other], j, n);
                return n;
            } catch (IndexOutOfBoundsException outside) {
                return -12;
            }
        }

        int lotsBy(int s, int sort, int at, int n) {
            if (s < 0 || s > 3 || sort < 0 || sort > 2 || n < 0 || n > 7) {
                return -2;
            }
            if (sheets[s] == null) {
                return -11;
            }
            if (sortOf(s) != sort) {
                return -13;
            }
            int came = 0;
            for (int k = 0; k < n; k++) {
                long place = at + 3L * k;
                if (place < 0 || place + 2 >= size(s)) {
                    return -12;
                }
                int p = (int) place;
                came += lot(cellAt(s, p), cellAt(s, p + 1), cellAt(s, p + 2)) >= 0 ? 1 : 0;
            }
            return came;
        }

        int taken(int i, int kind) {
            if (kind < 0 || kind > 6) {
                return -2;
            }
            if (i < 0 || i > 13) {
                return -12;
            }
            if (i < 7) {
                if (!town.has(i)) {
                    return -11;
                }
                int above = town.lots.get(i).kind;
                int[] parents = {-1, 0, 0, 1, 2, 0};
                while (above >= 0 && above != kind) {
                    above = parents[above];
                }
                return above >= 0 ? i : -13;
            }
            if (!town.has(i - 7) || town.lots.get(i - 7).colour < 0) {
                return -11;
            }
            return kind == 6 ? town.lots.get(i - 7).colour : -13;
        }
    }

    // ---- runs

    private static final class Run {
        final int seed;
        final Random random;
        final FirstColour x = new FirstColour();
        final Model m = new Model();
        final int wide;
        final StringBuilder log = new StringBuilder();
        boolean differs = false;

        Run(int seed) {
            this.seed = seed;
            random = new Random(seed);
            // All seven lots are dear in the model, which tries each of 5040 orders in full.
            wide = seed % 25 == 0 ? 7 : 3 + seed % 4;
        }

        void go() {
            for (int i = 0; i < CALLS && !differs; i++) {
                call();
            }
            if (differs) {
                wrong++;
                System.out.println("run " + seed + ":\n" + log);
            }
        }

        int upTo(int most) {
            return random.nextInt(most + 1);
        }

        /** 0 .. most, now and then just outside, seldom far off. */
        int near(int most) {
            int dice = random.nextInt(60);
            return dice == 0 ? -1 : dice == 1 ? most + 1 : dice == 2 ? random.nextInt() : upTo(most);
        }

        int lotNumber() {
            return near(Math.max(0, m.town.lots.size() - 1));
        }

        void same(String call, long got, long want) {
            log.append(call).append(" = ").append(got);
            if (got != want) {
                log.append(", but the model says ").append(want);
                differs = true;
            }
            log.append('\n');
        }

        String call(String name, int... args) {
            StringBuilder call = new StringBuilder(name).append('(');
            for (int i = 0; i < args.length; i++) {
                call.append(i == 0 ? "" : ", ").append(args[i]);
            }
            return call.append(')').toString();
        }

        void call() {
            int l = lotNumber();
            int other = lotNumber();
            int s = near(3);
            switch (random.nextInt(44)) {
                case 0: { int w = near(6); same(call("count", w), x.count(w), m.count(w)); break; }
                case 1: feedSome(); break;
                case 2: case 3: feedText(); break;
                case 4: { int t = near(m.texts.size() - 1); same(call("force", t), x.force(t), m.force(t)); break; }
                case 5: {
                    int part = near(2);
                    int c = near(11);
                    int order = near(7);
                    same(call("asks", part, l, c, order), x.asks(part, l, c, order), m.asks(part, l, c, order));
                    break;
                }
                case 6: case 7: case 8: {
                    if (m.town.lots.size() < wide || random.nextInt(9) == 0 && wide == 7) {
                        int kind = near(5);
                        int more = near(9);
                        int others = near((1 << m.town.lots.size()) - 1);
                        same(call("lot", kind, more, others), x.lot(kind, more, others), m.lot(kind, more, others));
                    }
                    break;
                }
                case 9: { int w = near(4); same(call("told", l, w), x.told(l, w), m.told(l, w)); break; }
                case 10: case 11: same(call("build", l), x.build(l), m.build(l)); break;
                case 12: same(call("would", l), x.would(l), m.would(l)); break;
                case 13: case 14: same(call("pull", l), x.pull(l), m.pull(l)); break;
                case 15: { int c = near(random.nextBoolean() ? 11 : 2); same(call("paint", l, c), x.paint(l, c), m.paint(l, c)); break; }
                case 16: same(call("lane", l, other), x.lane(l, other), m.lane(l, other)); break;
                case 17: case 18: same(call("close", l, other), x.close(l, other), m.close(l, other)); break;
                case 19: { int w = near(2); same(call("idle", w), x.idle(w), m.idle(w)); break; }
                case 20: { int sort = near(1); int w = near(1); same(call("order", sort, w), x.order(sort, w), m.order(sort, w)); break; }
                case 21: same("fewest()", x.fewest(), m.fewest()); break;
                case 22: { tellOrder(s, -1); int w = near(7); same(call("paints", s, w), x.paints(s, w), m.paints(s, w)); break; }
                case 23: { tellOrder(s, -1); same(call("raise", s), x.raise(s), m.raise(s)); break; }
                case 24: case 25: { tellOrder(s, l); int w = near(1); same(call("when", l, s, w), x.when(l, s, w), m.when(l, s, w)); break; }
                case 26: { int r = near(2); int w = near(1); same(call("rule", r, w), x.rule(r, w), m.rule(r, w)); break; }
                case 27: same(call("ahead", l, other), x.ahead(l, other), m.ahead(l, other)); break;
                case 28: { int w = near(1); same(call("built", w), x.built(w), m.built(w)); break; }
                case 29: same("blame()", x.blame(), m.blame()); break;
                case 30: { tellMap(s); same(call("judge", s), x.judge(s), m.judge(s)); break; }
                case 31: case 32: { tellMap(s); int w = near(1); same(call("plans", s, w), x.plans(s, w), m.plans(s, w)); break; }
                case 33: same(call("film", s), x.film(s), m.film(s)); break;
                case 34: {
                    int many = random.nextInt(3) == 0 ? near(20) : upTo(2);
                    same(call("laws", l, other, many), x.laws(l, other, many), m.laws(l, other, many));
                    break;
                }
                case 35: { int seed = near(99999); same(call("drawn", seed), x.drawn(seed), m.drawn(seed)); break; }
                case 36: {
                    int seed = random.nextInt(3) == 0 ? 99999 : near(99999);
                    int seeds = near(40);
                    int n = near(7);
                    int part = near(1);
                    same(call("odds", seed, seeds, n, part), x.odds(seed, seeds, n, part), m.odds(seed, seeds, n, part));
                    break;
                }
                case 37: if (random.nextInt(3) == 0) { same("image()", x.image(), m.image()); } break;
                case 38: if (random.nextInt(2) == 0) { same("back()", x.back(), m.back()); } break;
                case 39: { int sort = near(3) - 1; int n = near(40); same(call("sheet", s, sort, n), x.sheet(s, sort, n), m.sheet(s, sort, n)); break; }
                case 40: { int i = near(39); int v = near(300); same(call("cell", s, i, v), x.cell(s, i, v), m.cell(s, i, v)); break; }
                case 41: {
                    int to = near(3);
                    int i = near(12);
                    int j = near(12);
                    int n = near(8);
                    same(call("copy", s, i, to, j, n), x.copy(s, i, to, j, n), m.copy(s, i, to, j, n));
                    break;
                }
                case 42: lotsBy(s); break;
                default: { int i = near(13); int k = near(6); same(call("taken", i, k), x.taken(i, k), m.taken(i, k)); break; }
            }
        }

        void feedSome() {
            int n = near(5);
            int[] b = new int[5];
            for (int i = 0; i < 5; i++) {
                b[i] = random.nextInt(40) == 0 ? near(255) : " \n(;)-lo19".charAt(upTo(9));
            }
            feed(n, b);
            if (random.nextInt(4) == 0) {
                same("text()", x.text(), m.text());
            }
        }

        void feed(int n, int[] b) {
            same(call("feed", n, b[0], b[1], b[2], b[3], b[4]), x.feed(n, b[0], b[1], b[2], b[3], b[4]), m.feed(n, b));
        }

        void feedText() {
            if (m.texts.size() == 6 && random.nextInt(10) > 0) {
                return;
            }
            StringBuilder text = new StringBuilder();
            for (String key : KEYS.subList(0, 3)) {
                text.append(key).append(' ').append(expression(upTo(3))).append(random.nextBoolean() ? ";" : " ; ");
            }
            int faults = random.nextInt(3) - 1;
            for (int i = 0; i < faults; i++) {
                int at = random.nextInt(text.length());
                switch (random.nextInt(3)) {
                    case 0: text.deleteCharAt(at); break;
                    case 1: text.insert(at, " (not -1 and or lots 12345;<=*+".charAt(upTo(30))); break;
                    default: text.insert(at, List.of(" not ", "(", "-", ")", " and ", "<", ";", " more ", "9").get(upTo(8)));
                }
            }
            for (int i = 0; i < text.length(); i += 5) {
                int[] b = new int[5];
                int n = Math.min(5, text.length() - i);
                for (int k = 0; k < n; k++) {
                    b[k] = text.charAt(i + k);
                }
                feed(n, b);
            }
            same("text()", x.text(), m.text());
        }

        String expression(int deep) {
            if (deep == 0) {
                return random.nextBoolean() ? NAMES.get(upTo(5)) : "" + random.nextInt(random.nextBoolean() ? 6 : 9999);
            }
            String a = expression(deep - 1);
            String b = expression(upTo(deep - 1));
            switch (random.nextInt(8)) {
                case 0: return "-" + a;
                case 1: return "not " + a;
                case 2: return "(" + a + ")";
                case 3: return "(" + a + ")" + List.of(" + ", "*", "-", " < ", "=").get(upTo(4)) + "(" + b + ")";
                default: return a + List.of(" + ", "*", "-", " < ", "=", " and ", " or ").get(upTo(6)) + b;
            }
        }

        void row(int s, int sort, int... values) {
            same(call("sheet", s, sort, values.length), x.sheet(s, sort, values.length), m.sheet(s, sort, values.length));
            for (int i = 0; i < values.length; i++) {
                same(call("cell", s, i, values[i]), x.cell(s, i, values[i]), m.cell(s, i, values[i]));
            }
        }

        void tellOrder(int s, int but) {
            if (random.nextInt(6) == 0) {
                return;
            }
            List<Integer> order = m.town.those(false);
            if (random.nextInt(8) > 0) {
                order.remove((Integer) but);
            }
            java.util.Collections.shuffle(order, random);
            if (random.nextInt(10) == 0) {
                order.add(near(6));
            }
            if (random.nextInt(10) == 0 && !order.isEmpty()) {
                order.set(random.nextInt(order.size()), near(6));
            }
            row(s, upTo(2), order.stream().mapToInt(i -> i).toArray());
        }

        void tellMap(int s) {
            if (random.nextInt(6) == 0) {
                return;
            }
            List<Integer> order = m.town.those(false);
            java.util.Collections.shuffle(order, random);
            Place at = random.nextInt(3) == 0 ? m.town : m.after(order);
            int[] values = new int[at.lots.size() + (random.nextInt(10) == 0 ? 1 : 0)];
            for (int l = 0; l < at.lots.size(); l++) {
                values[l] = at.lots.get(l).colour;
            }
            if (values.length > 0 && random.nextInt(3) == 0) {
                values[random.nextInt(values.length)] = random.nextInt(4) == 0 ? random.nextInt() : upTo(3);
            }
            row(s, upTo(2), values);
        }

        void lotsBy(int s) {
            int sort = upTo(2);
            if (random.nextInt(3) > 0) {
                int[] values = new int[upTo(12)];
                for (int i = 0; i < values.length; i++) {
                    values[i] = upTo(6);
                }
                row(s, sort, values);
            }
            int at = near(4);
            int n = Math.min(near(7), Math.max(1, wide - m.town.lots.size()));
            same(call("lotsBy", s, sort, at, n), x.lotsBy(s, sort, at, n), m.lotsBy(s, sort, at, n));
        }
    }
}
