import java.util.ArrayList;
import java.util.HashMap;
import java.util.HashSet;
import java.util.List;
import java.util.Map;
import java.util.NoSuchElementException;
import java.util.Random;
import java.util.Set;
import java.util.regex.Matcher;
import java.util.regex.Pattern;

/**
 * Runs of chosen calls, always the same ones, on StyleDesk and on a second program that was written
 * from the document in another way (patterns, trees, calls that nest); all answers must agree.
 */
public final class ModelTest {
    private static final int RUNS = 1500;
    private static final int MOST_CALLS = 512;

    public static void main(String[] args) {
        long asked = 0;
        int[] seen = new int[20];
        for (int run = 0; run < RUNS; run++) {
            Run r = new Run(run, seen);
            if (!r.agrees()) {
                System.exit(1);
            }
            asked += r.calls;
        }
        System.out.println(asked + " calls agree");
        for (int i = 0; i < 14; i++) {
            if (seen[i] < 300) {
                System.out.println("too few calls with answer of sort " + i + ": " + seen[i]);
                System.exit(1);
            }
        }
    }

    /** One run: an object, the model, and texts made by chance from the grammar. */
    private static final class Run {
        final Random chance;
        final int number;
        final int[] seen;
        final StyleDesk desk = new StyleDesk();
        final Model model = new Model();
        final StringBuilder told = new StringBuilder();
        int calls = 0;
        boolean agreed = true;

        Run(int number, int[] seen) {
            this.number = number;
            this.seen = seen;
            chance = new Random(number);
        }

        boolean agrees() {
            int elements = 1 + chance.nextInt(number % 5 == 0 ? 24 : 9);
            for (int i = 0; i < elements; i++) {
                addElement(i == 0 ? -1 : chance.nextInt(3) == 0 ? i - 1 : chance.nextInt(i));
            }
            while (agreed && calls < MOST_CALLS - 60) {
                turn();
            }
            if (!agreed) {
                System.out.println("run " + number + "\n" + told);
            }
            return agreed;
        }

        private void turn() {
            int e = chance.nextInt(20) == 0 ? chance.nextInt(28) - 2 : chance.nextInt(model.size());
            switch (chance.nextInt(16)) {
                case 0:
                    addElement(chance.nextInt(model.size() + 2) - 1);
                    break;
                case 1:
                case 2:
                case 3:
                    type(aRule());
                    int origin = chance.nextInt(chance.nextInt(25) == 0 ? 5 : 3)
                            - (chance.nextInt(60) == 0 ? 1 : 0);
                    same("rule(" + origin + ")", () -> desk.rule(origin), () -> model.rule(origin));
                    break;
                case 4:
                    if (chance.nextInt(2) == 0) {
                        int k = chance.nextInt(20) - 2;
                        same("drop(" + k + ")", () -> {
                            desk.drop(k);
                            return 0;
                        }, () -> model.drop(k));
                    }
                    break;
                case 5:
                case 6:
                    type(spoiled(selectors()));
                    note(same("matches(" + e + ")", () -> desk.matches(e),
                            () -> model.matches(e)), 0);
                    break;
                case 7:
                    int k = chance.nextInt(model.rules.size() + 2) - 1;
                    same("weight(" + k + "," + e + ")", () -> desk.weight(k, e),
                            () -> model.weightOf(k, e));
                    break;
                case 8:
                case 9:
                    int n = chance.nextInt(12) - 1;
                    note(same("winner(" + e + "," + n + ")", () -> desk.winner(e, n),
                            () -> model.winner(e, n)), 4);
                    break;
                case 10:
                    int what = chance.nextInt(5) - 1;
                    same("count(" + what + ")", () -> desk.count(what), () -> model.count(what));
                    break;
                default:
                    int p = chance.nextInt(30) == 0 ? chance.nextInt(10) - 2 : chance.nextInt(6);
                    note(same("how(" + e + "," + p + ")", () -> desk.how(e, p),
                            () -> model.how(e, p)), 8);
                    same("value(" + e + "," + p + ")", () -> desk.value(e, p),
                            () -> model.value(e, p));
                    break;
            }
        }

        private void note(Object answer, int sort) {
            if (answer instanceof Boolean) {
                seen[sort + ((Boolean) answer ? 1 : 0)]++;
            } else if (answer instanceof Integer) {
                seen[sort + Math.min(3, Math.max(0, (Integer) answer))]++;
            } else {
                seen[sort == 0 ? 2 : sort == 4 ? 3 : 12]++;
            }
            seen[13]++;
        }

        private void addElement(int parent) {
            int tag = chance.nextInt(40) == 0 ? 95 + chance.nextInt(30) : 'a' + chance.nextInt(3);
            int ids = chance.nextInt(9) == 0 ? 5 : 2;
            int id = chance.nextInt(4) > 0 ? 0 : 'x' + chance.nextInt(ids);
            int classes = chance.nextInt(40) == 0 ? 250 + chance.nextInt(12) : chance.nextInt(8);
            int parentAsked = chance.nextInt(60) == 0 ? chance.nextInt(28) - 3 : parent;
            boolean root = model.size() == 0;
            same("element(" + parentAsked + "," + tag + "," + id + "," + classes + ")",
                    () -> desk.element(parentAsked, tag, id, classes),
                    () -> model.element(parentAsked, tag, id, classes));
            if (root && model.size() == 0) {
                same("element(-1,97,0,0)", () -> desk.element(-1, 'a', 0, 0),
                        () -> model.element(-1, 'a', 0, 0));
            }
        }

        private void type(String text) {
            int at = 0;
            while (at < text.length()) {
                int n = Math.min(4, text.length() - at);
                int word = chance.nextInt();
                for (int i = 0; i < n; i++) {
                    word = word << 8 | text.charAt(at + i);
                }
                int asked = word;
                same("put(" + text.substring(at, at + n) + ")", () -> desk.put(asked, n),
                        () -> model.put(asked, n));
                at += n;
            }
            if (chance.nextInt(60) == 0) {
                int n = chance.nextInt(7) - 1;
                int word = chance.nextInt();
                same("put(" + word + "," + n + ")", () -> desk.put(word, n),
                        () -> model.put(word, n));
            }
        }

        private Object same(String call, Call ours, Call theirs) {
            calls++;
            Object a = answer(ours);
            Object b = answer(theirs);
            told.append(call).append(" = ").append(a).append('\n');
            if (!a.equals(b)) {
                told.append("but the model says ").append(b).append('\n');
                agreed = false;
            }
            return a;
        }

        private static Object answer(Call call) {
            try {
                Object got = call.run();
                return got instanceof Float && (Float) got == 0f ? (Object) 0f : got;
            } catch (RuntimeException e) {
                return e.getClass().getSimpleName();
            }
        }

        private String spoiled(String text) {
            if (chance.nextInt(8) > 0 || text.isEmpty()) {
                return text;
            }
            StringBuilder s = new StringBuilder(text);
            int at = chance.nextInt(s.length() + 1);
            String signs = "a*#.:fln(x)2+-/>~ ,{;}!$ei%";
            switch (chance.nextInt(4)) {
                case 0:
                    s.setLength(at);
                    break;
                case 1:
                    s.insert(at, signs.charAt(chance.nextInt(signs.length())));
                    break;
                case 2:
                    s.deleteCharAt(Math.min(at, s.length() - 1));
                    break;
                default:
                    s.setCharAt(Math.min(at, s.length() - 1),
                            signs.charAt(chance.nextInt(signs.length())));
                    break;
            }
            return s.toString();
        }

        private String aRule() {
            StringBuilder s = new StringBuilder(selectors()).append('{');
            int many = 1 + chance.nextInt(4) + chance.nextInt(30) / 29;
            for (int i = 0; i < many; i++) {
                s.append(i == 0 ? "" : ";").append(declaration());
            }
            return spoiled(s.append('}').toString());
        }

        private String declaration() {
            String[] names = {
                "c", "f", "f", "w", "h", "m", "z", "$a", "$b", "$c", "$d", "$a", "$b"};
            int way = chance.nextInt(12);
            String value = way == 0 ? "inherit" : way == 1 ? "initial" : sum(0);
            return names[chance.nextInt(names.length)] + ":" + value
                    + (chance.nextInt(5) == 0 ? "!" : "");
        }

        private String sum(int depth) {
            StringBuilder s = new StringBuilder(product(depth));
            while (chance.nextInt(4) == 0) {
                s.append(chance.nextBoolean() ? '+' : '-').append(product(depth));
            }
            return s.toString();
        }

        private String product(int depth) {
            StringBuilder s = new StringBuilder(factor(depth));
            while (chance.nextInt(5) == 0) {
                s.append(chance.nextBoolean() ? '*' : '/');
                s.append(chance.nextBoolean() ? number("") : factor(depth));
            }
            return s.toString();
        }

        private String factor(int depth) {
            if (depth < 8 && chance.nextInt(number % 7 == 0 ? 2 : 7) == 0) {
                return chance.nextBoolean() ? "-" + factor(depth + 1) : "(" + sum(depth + 1) + ")";
            }
            if (chance.nextInt(3) == 0) {
                return "$" + (char) ('a' + chance.nextInt(chance.nextInt(30) == 0 ? 5 : 4));
            }
            String[] units = {"p", "p", "p", "e", "%", ""};
            return number(units[chance.nextInt(units.length)]);
        }

        private String number(String unit) {
            int[] tops = {3, 10, 100, 1000, 1000, 1050};
            return chance.nextInt(tops[chance.nextInt(tops.length)])
                    + (chance.nextInt(4) == 0 ? "." + chance.nextInt(10) : "") + unit;
        }

        private String selectors() {
            StringBuilder s = new StringBuilder(selector());
            while (chance.nextInt(4) == 0) {
                s.append(',').append(selector());
            }
            return s.toString();
        }

        private String selector() {
            StringBuilder s = new StringBuilder(compound(false));
            while (chance.nextInt(5) < 2) {
                s.append(" >+~".charAt(chance.nextInt(4))).append(compound(false));
            }
            return s.toString();
        }

        private String compound(boolean inside) {
            int head = chance.nextInt(4);
            StringBuilder s = new StringBuilder(
                    head == 0 ? "*" : head == 1 ? "" : "" + (char) ('a' + chance.nextInt(3)));
            while (chance.nextInt(20) > 0 && s.length() == 0 || chance.nextInt(4) == 0) {
                s.append(part(inside));
            }
            return s.toString();
        }

        private String part(boolean inside) {
            switch (chance.nextInt(8)) {
                case 0:
                    return "#" + (char) ('x' + chance.nextInt(2));
                case 1:
                    return ":f";
                case 2:
                    return ":l";
                case 3:
                    return ":n(" + chance.nextInt(5) + ")";
                case 4:
                    String tail = "+-".charAt(chance.nextInt(2)) + "" + chance.nextInt(10);
                    return ":n(" + chance.nextInt(5) + "n"
                            + (chance.nextBoolean() ? tail : "") + ")";
                case 5:
                    return inside && chance.nextInt(9) > 0 ? ".a" : ":x(" + compound(true) + ")";
                default:
                    return "." + (char) ('a' + chance.nextInt(chance.nextInt(20) == 0 ? 9 : 3));
            }
        }
    }

    private interface Call {
        Object run();
    }

    private static final class Node {
        int parent;
        int tag;
        int id;
        int classes;
    }

    private static final class Saying {
        String name;
        String value;
        boolean important;
    }

    private static final class ModelRule {
        int origin;
        String[] selectors;
        List<Saying> sayings = new ArrayList<>();
    }

    /** What a sum gives: a kind, p for plain or l for a length; null stands for what is broken. */
    private static final class Worth {
        final char kind;
        final float amount;

        Worth(char kind, float amount) {
            this.kind = kind;
            this.amount = amount;
        }
    }

    /** For whom a sum is worked out. */
    private static final class Asker {
        int e;
        int property;
        Map<String, Worth> known = new HashMap<>();
        Set<String> begun = new HashSet<>();
    }

    /** A sum as a tree; sign 0 stands for a single number or name, m for a minus before it. */
    private static final class Tree {
        char sign = 0;
        String word;
        Tree left;
        Tree right;
        int nested = 0;
    }

    private static final class Model {
        static final String NTH = ":n\\(\\d(?:n(?:[+-]\\d)?)?\\)";
        static final String BARE = "(?:#[a-z]|\\.[a-h]|:f|:l|" + NTH + ")";
        static final String INNER = "(?:[a-z*]" + BARE + "{0,4}|" + BARE + "{1,4})";
        static final String PART = "(?:" + BARE + "|:x\\(" + INNER + "\\))";
        static final String COMPOUND = "(?:[a-z*]" + PART + "{0,4}|" + PART + "{1,4})";
        static final String SELECTOR = COMPOUND + "(?:[ >+~]" + COMPOUND + "){0,3}";
        static final Pattern SELECTORS =
                Pattern.compile(SELECTOR + "(?:," + SELECTOR + "){0,2}");
        static final Pattern LAST_COMPOUND =
                Pattern.compile("(?:(.*)([ >+~]))?(" + COMPOUND + ")");
        static final Pattern A_PART = Pattern.compile(PART);
        static final Pattern A_NUMBER = Pattern.compile("(\\d{1,3})(?:\\.(\\d))?([pe%]?)");
        static final String NAMES = "cfwhmz";

        final List<Node> nodes = new ArrayList<>();
        final List<ModelRule> rules = new ArrayList<>();
        String buffer = "";

        int size() {
            return nodes.size();
        }

        int element(int parent, int tag, int id, int classes) {
            boolean placed = nodes.isEmpty() ? parent == -1 : parent >= 0 && parent < size();
            if (!placed || !letter(tag) || id != 0 && !letter(id) || (classes & ~255) != 0) {
                throw new IllegalArgumentException();
            }
            if (size() >= 24) {
                throw new IllegalStateException();
            }
            Node node = new Node();
            node.parent = parent;
            node.tag = tag;
            node.id = id;
            node.classes = classes;
            nodes.add(node);
            return size() - 1;
        }

        private static boolean letter(int c) {
            return "abcdefghijklmnopqrstuvwxyz".indexOf(c) >= 0;
        }

        boolean put(int word, int n) {
            if (n < 1 || n > 4) {
                return false;
            }
            String more = "";
            for (int i = 0; i < n; i++) {
                more = (char) (word >> 8 * i & 255) + more;
            }
            if (!more.matches("[ -~]+") || buffer.length() + n > 120) {
                return false;
            }
            buffer += more;
            return true;
        }

        int rule(int origin) {
            String text = buffer;
            buffer = "";
            if (rules.size() == 16) {
                throw new IllegalStateException();
            }
            ModelRule rule = origin < 0 || origin > 2 ? null : read(text);
            if (rule == null) {
                throw new IllegalArgumentException();
            }
            rule.origin = origin;
            rules.add(rule);
            return rules.size() - 1;
        }

        private ModelRule read(String text) {
            int brace = text.indexOf('{');
            if (brace < 0 || !text.endsWith("}")) {
                return null;
            }
            ModelRule rule = new ModelRule();
            String head = text.substring(0, brace);
            if (!SELECTORS.matcher(head).matches()) {
                return null;
            }
            rule.selectors = head.split(",");
            String[] said = text.substring(brace + 1, text.length() - 1).split(";", -1);
            for (String s : said) {
                Matcher m = Pattern.compile("([cfwhmz]|\\$[a-d]):(.*?)(!?)").matcher(s);
                if (!m.matches() || said.length > 4) {
                    return null;
                }
                Saying saying = new Saying();
                saying.name = m.group(1);
                saying.value = m.group(2);
                saying.important = !m.group(3).isEmpty();
                if (!saying.value.equals("inherit") && !saying.value.equals("initial")) {
                    Tree tree = treeOf(saying.value);
                    if (tree == null || tree.nested > 6) {
                        return null;
                    }
                }
                rule.sayings.add(saying);
            }
            return rule;
        }

        /** Splits at the last + or - (or else the last * or /) that stands between two parts. */
        private static Tree treeOf(String s) {
            Tree tree = new Tree();
            for (String signs : new String[] {"+-", "*/"}) {
                int depth = 0;
                for (int i = s.length() - 1; i > 0; i--) {
                    depth += s.charAt(i) == ')' ? 1 : s.charAt(i) == '(' ? -1 : 0;
                    boolean between = "+-*/(".indexOf(s.charAt(i - 1)) < 0;
                    if (depth == 0 && between && signs.indexOf(s.charAt(i)) >= 0) {
                        tree.sign = s.charAt(i);
                        tree.left = treeOf(s.substring(0, i));
                        tree.right = treeOf(s.substring(i + 1));
                        if (tree.left == null || tree.right == null) {
                            return null;
                        }
                        tree.nested = Math.max(tree.left.nested, tree.right.nested);
                        return tree;
                    }
                }
            }
            if (A_NUMBER.matcher(s).matches() || s.matches("\\$[a-d]")) {
                tree.word = s;
                return tree;
            }
            boolean bracketed = s.startsWith("(") && s.endsWith(")");
            if (!bracketed && !s.startsWith("-")) {
                return null;
            }
            Tree inner = treeOf(s.substring(1, bracketed ? s.length() - 1 : s.length()));
            if (inner == null) {
                return null;
            }
            tree.sign = bracketed ? '(' : 'm';
            tree.left = inner;
            tree.nested = inner.nested + 1;
            return tree;
        }

        int drop(int k) {
            if (k < 0 || k >= rules.size()) {
                throw new NoSuchElementException();
            }
            rules.remove(k);
            return 0;
        }

        boolean matches(int e) {
            String text = buffer;
            buffer = "";
            check(e);
            if (!SELECTORS.matcher(text).matches()) {
                throw new IllegalArgumentException();
            }
            for (String s : text.split(",")) {
                if (fits(s, e)) {
                    return true;
                }
            }
            return false;
        }

        private void check(int e) {
            if (e < 0 || e >= size()) {
                throw new NoSuchElementException();
            }
        }

        private List<Integer> siblings(int e) {
            List<Integer> all = new ArrayList<>();
            for (int i = 0; i < size(); i++) {
                if (nodes.get(i).parent == nodes.get(e).parent) {
                    all.add(i);
                }
            }
            return all;
        }

        private boolean fits(String selector, int e) {
            Matcher m = LAST_COMPOUND.matcher(selector);
            if (!m.matches()) {
                throw new AssertionError(selector);
            }
            if (!holds(m.group(3), e)) {
                return false;
            }
            if (m.group(1) == null) {
                return true;
            }
            List<Integer> row = siblings(e);
            int at = row.indexOf(e);
            List<Integer> tried = new ArrayList<>();
            switch (m.group(2).charAt(0)) {
                case ' ':
                    for (int p = nodes.get(e).parent; p >= 0; p = nodes.get(p).parent) {
                        tried.add(p);
                    }
                    break;
                case '>':
                    if (e > 0) {
                        tried.add(nodes.get(e).parent);
                    }
                    break;
                case '+':
                    if (at > 0) {
                        tried.add(row.get(at - 1));
                    }
                    break;
                default:
                    tried.addAll(row.subList(0, at));
                    break;
            }
            for (int other : tried) {
                if (fits(m.group(1), other)) {
                    return true;
                }
            }
            return false;
        }

        private boolean holds(String compound, int e) {
            Node node = nodes.get(e);
            String rest = compound;
            if (letter(rest.charAt(0)) || rest.charAt(0) == '*') {
                if (rest.charAt(0) != '*' && rest.charAt(0) != node.tag) {
                    return false;
                }
                rest = rest.substring(1);
            }
            List<Integer> row = siblings(e);
            int number = row.indexOf(e) + 1;
            Matcher m = A_PART.matcher(rest);
            while (m.find()) {
                String part = m.group();
                boolean held;
                if (part.startsWith("#")) {
                    held = node.id == part.charAt(1);
                } else if (part.startsWith(".")) {
                    held = (node.classes >> part.charAt(1) - 'a') % 2 == 1;
                } else if (part.equals(":f")) {
                    held = number == 1;
                } else if (part.equals(":l")) {
                    held = number == row.size();
                } else if (part.startsWith(":n")) {
                    held = counts(part.substring(3, part.length() - 1), number);
                } else {
                    held = !holds(part.substring(3, part.length() - 1), e);
                }
                if (!held) {
                    return false;
                }
            }
            return true;
        }

        private static boolean counts(String wanted, int number) {
            int a = wanted.charAt(0) - '0';
            if (wanted.length() == 1) {
                return number == a;
            }
            int b = wanted.length() == 2 ? 0 : Integer.parseInt(wanted.substring(2));
            for (int k = 0; k < 100; k++) {
                if (a * k + b == number) {
                    return true;
                }
            }
            return false;
        }

        private static int weight(String selector) {
            int sum = 0;
            String bare = selector.replaceAll(":n\\([^)]*\\)", ":");
            bare = bare.replaceAll(":[fl]", ":").replaceAll(":x\\(([^)]*)\\)", "<$1");
            for (int i = 0; i < bare.length(); i++) {
                char c = bare.charAt(i);
                char before = i == 0 ? ' ' : bare.charAt(i - 1);
                if (c == '#') {
                    sum += 10000;
                } else if (c == '.' || c == ':') {
                    sum += 100;
                } else if (letter(c) && before != '#' && before != '.') {
                    sum++;
                }
            }
            return sum;
        }

        int weightOf(int k, int e) {
            if (k < 0 || k >= rules.size()) {
                throw new NoSuchElementException();
            }
            check(e);
            int best = -1;
            for (String s : rules.get(k).selectors) {
                if (fits(s, e)) {
                    best = Math.max(best, weight(s));
                }
            }
            return best;
        }

        /** The rule and the place in it of the winner, as rule * 4 + place; -1 for none. */
        private int leader(int e, String name) {
            int best = -1;
            long[] bestRank = null;
            for (int k = 0; k < rules.size(); k++) {
                ModelRule rule = rules.get(k);
                int weight = weightOf(k, e);
                for (int i = 0; i < rule.sayings.size(); i++) {
                    Saying s = rule.sayings.get(i);
                    if (weight < 0 || !s.name.equals(name)) {
                        continue;
                    }
                    long[] rank = {s.important ? 1 : 0, s.important ? -rule.origin : rule.origin,
                        weight, k, i};
                    if (bestRank == null || java.util.Arrays.compare(rank, bestRank) > 0) {
                        bestRank = rank;
                        best = k * 4 + i;
                    }
                }
            }
            return best;
        }

        int winner(int e, int n) {
            check(e);
            if (n < 0 || n > 9) {
                throw new IllegalArgumentException();
            }
            String name = n < 6 ? NAMES.substring(n, n + 1) : "$" + (char) ('a' + n - 6);
            int found = leader(e, name);
            return found < 0 ? -1 : found / 4;
        }

        float value(int e, int property) {
            check(e);
            if (property < 0 || property > 5) {
                throw new IllegalArgumentException();
            }
            return said(e, property, new int[1]);
        }

        int how(int e, int property) {
            value(e, property);
            int[] how = new int[1];
            said(e, property, how);
            return how[0];
        }

        private float parents(int e, int property, float forRoot) {
            return e == 0 ? forRoot : said(nodes.get(e).parent, property, new int[1]);
        }

        private float said(int e, int property, int[] how) {
            float first = property == 1 ? 16 : 0;
            String value = sayingAt(e, NAMES.substring(property, property + 1));
            how[0] = 1;
            if (value == null) {
                how[0] = 0;
            } else if (value.equals("inherit")) {
                return parents(e, property, first);
            } else if (value.equals("initial")) {
                return first;
            } else {
                Asker asker = new Asker();
                asker.e = e;
                asker.property = property;
                Worth worth = worth(treeOf(value), asker, e);
                if (worth != null && worth.kind == kind(property)) {
                    how[0] = 2;
                    return worth.amount;
                }
                how[0] = 3;
            }
            return property < 2 ? parents(e, property, first) : first;
        }

        private static char kind(int property) {
            return property == 0 || property == 5 ? 'p' : 'l';
        }

        private String sayingAt(int e, String name) {
            int found = leader(e, name);
            return found < 0 ? null : rules.get(found / 4).sayings.get(found % 4).value;
        }

        private Worth worth(Tree tree, Asker asker, int place) {
            Worth w = unbounded(tree, asker, place);
            return w == null || Math.abs(w.amount) > 1e6f ? null : w;
        }

        private Worth unbounded(Tree tree, Asker asker, int place) {
            if (tree.sign == 0) {
                return tree.word.startsWith("$")
                        ? named(tree.word, asker, place) : number(tree.word, asker);
            }
            Worth a = worth(tree.left, asker, place);
            if (a == null || tree.sign == '(') {
                return a;
            }
            if (tree.sign == 'm') {
                return new Worth(a.kind, -a.amount);
            }
            Worth b = worth(tree.right, asker, place);
            if (b == null) {
                return null;
            }
            switch (tree.sign) {
                case '+':
                    return a.kind != b.kind ? null : new Worth(a.kind, a.amount + b.amount);
                case '-':
                    return a.kind != b.kind ? null : new Worth(a.kind, a.amount - b.amount);
                case '*':
                    return a.kind == 'l' && b.kind == 'l' ? null : new Worth(
                            a.kind == 'l' || b.kind == 'l' ? 'l' : 'p', a.amount * b.amount);
                default:
                    return b.kind == 'l' || b.amount == 0
                            ? null : new Worth(a.kind, a.amount / b.amount);
            }
        }

        private Worth number(String word, Asker asker) {
            Matcher m = A_NUMBER.matcher(word);
            if (!m.matches()) {
                throw new AssertionError(word);
            }
            float n = Integer.parseInt(m.group(1));
            if (m.group(2) != null) {
                n = (float) Integer.parseInt(m.group(1) + m.group(2)) / 10f;
            }
            switch (m.group(3)) {
                case "":
                    return new Worth('p', n);
                case "p":
                    return new Worth('l', n);
                case "e":
                    return new Worth('l', n * (asker.property == 1
                            ? parents(asker.e, 1, 16) : said(asker.e, 1, new int[1])));
                default:
                    return new Worth(kind(asker.property),
                            n * parents(asker.e, asker.property, 0) / 100f);
            }
        }

        private Worth named(String name, Asker asker, int place) {
            String value = null;
            int found = place;
            while (found >= 0) {
                value = sayingAt(found, name);
                if (value != null && !value.equals("inherit")) {
                    break;
                }
                found = nodes.get(found).parent;
            }
            String key = name + found;
            if (found < 0 || value.equals("initial") || asker.begun.contains(key)) {
                return null;
            }
            if (!asker.known.containsKey(key)) {
                asker.begun.add(key);
                Worth w = worth(treeOf(value), asker, found);
                asker.begun.remove(key);
                asker.known.put(key, w);
            }
            return asker.known.get(key);
        }

        int count(int what) {
            return what == 0 ? size() : what == 1 ? rules.size() : what == 2 ? buffer.length() : -1;
        }
    }
}
