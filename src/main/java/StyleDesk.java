import java.util.Arrays;
import java.util.NoSuchElementException;

/**
 * A desk of styles: rules with selectors are read, elements stand in a tree, and for each element
 * and name the declaration that wins gives its value.
 *
 * Sets of elements are bits of an int: 1 for element 0, 2 for element 1, and so on.
 */
public final class StyleDesk {
    public static final int NONE = -1;

    private static final int MOST_ELEMENTS = 24;
    private static final int MOST_RULES = 16;
    private static final int MOST_CHARACTERS = 120;
    private static final int MOST_SELECTORS = 3;
    private static final int MOST_COMPOUNDS = 4;
    private static final int MOST_PARTS = 4;
    private static final int MOST_DECLARATIONS = 4;
    private static final int MOST_DIGITS = 3;
    private static final int DEEPEST_FACTOR = 6;
    private static final int MOST_AMOUNT = 1000000;

    private static final int ORIGINS = 3;
    private static final int PROPERTIES = 6;
    private static final int NAMED_VALUES = 4;
    private static final int NAMES = PROPERTIES + NAMED_VALUES;
    private static final int C = 0;
    private static final int F = 1;
    private static final int W = 2;
    private static final int H = 3;
    private static final int M = 4;
    private static final int Z = 5;
    private static final int FIRST_F = 16;

    // What a declaration says.
    private static final int INHERIT = 0;
    private static final int INITIAL = 1;
    private static final int SUM = 2;

    // The steps of a sum; NAMED and the three behind it are $a .. $d.
    private static final int NUMBER = 0;
    private static final int POINTS = 1;
    private static final int EMS = 2;
    private static final int PERCENT = 3;
    private static final int NEGATE = 4;
    private static final int PLUS = 5;
    private static final int MINUS = 6;
    private static final int TIMES = 7;
    private static final int OVER = 8;
    private static final int NAMED = 9;

    // What an amount is: one of two kinds, or none yet or at all.
    private static final int PLAIN = 0;
    private static final int LENGTH = 1;
    private static final int BROKEN = 2;
    private static final int OPEN = 3;
    private static final int UNKNOWN = 4;

    // How a value came.
    private static final int BY_NOTHING = 0;
    private static final int BY_WORD = 1;
    private static final int BY_SUM = 2;
    private static final int BY_BROKEN_SUM = 3;
    private static final int NOT_YET = 4;

    private final Element[] elements;
    private int elementCount;
    private final Rule[] rules;
    private int ruleCount;
    private final TextBuffer buffer;
    private final Reckoner reckoner;
    private boolean stale;

    public StyleDesk() {
        elements = new Element[MOST_ELEMENTS];
        elementCount = 0;
        rules = new Rule[MOST_RULES];
        ruleCount = 0;
        buffer = new TextBuffer();
        reckoner = new Reckoner();
        stale = false;
    }

    public int element(int parent, int tag, int id, int classes)
            throws IllegalArgumentException, IllegalStateException {
        boolean placed = elementCount == 0 ? parent == NONE : isElement(parent);
        boolean named = isLetter(tag) && (id == 0 || isLetter(id));
        if (!placed || !named || classes < 0 || classes > 255) {
            throw new IllegalArgumentException();
        }
        if (elementCount == MOST_ELEMENTS) {
            throw new IllegalStateException();
        }
        Element above = parent == NONE ? null : elements[parent];
        Element added = new Element(elementCount, above, tag, id, classes);
        if (above != null) {
            above.adopt(added.bit);
        }
        elements[elementCount] = added;
        elementCount++;
        stale = true;
        return elementCount - 1;
    }

    public boolean put(int word, int n) {
        return buffer.append(word, n);
    }

    public int rule(int origin) throws IllegalStateException, IllegalArgumentException {
        buffer.startReading();
        if (ruleCount == MOST_RULES) {
            throw new IllegalStateException();
        }
        if (origin < 0 || origin >= ORIGINS) {
            throw new IllegalArgumentException();
        }
        Selector selectors = buffer.readSelectors();
        Declaration declarations = selectors == null ? null : buffer.readDeclarations(origin);
        if (declarations == null) {
            throw new IllegalArgumentException();
        }
        rules[ruleCount] = new Rule(selectors, declarations);
        ruleCount++;
        stale = true;
        return ruleCount - 1;
    }

    public void drop(int k) throws NoSuchElementException {
        checkRule(k);
        ruleCount--;
        for (int i = k; i < ruleCount; i++) {
            rules[i] = rules[i + 1];
        }
        rules[ruleCount] = null;
        stale = true;
    }

    public boolean matches(int e) throws NoSuchElementException, IllegalArgumentException {
        buffer.startReading();
        checkElement(e);
        Selector selectors = buffer.readSelectors();
        if (selectors == null || !buffer.isAtEnd()) {
            throw new IllegalArgumentException();
        }
        int matched = 0;
        for (Selector s = selectors; s != null; s = s.next) {
            s.meet(elements, elementCount);
            matched |= s.matched;
        }
        return (matched & elements[e].bit) != 0;
    }

    public int weight(int k, int e) throws NoSuchElementException {
        checkRule(k);
        checkElement(e);
        catchUp();
        return rules[k].heaviest(elements[e].bit);
    }

    public int winner(int e, int n) throws NoSuchElementException, IllegalArgumentException {
        checkElement(e);
        checkName(n, NAMES);
        catchUp();
        return elements[e].style.leadingRule(n);
    }

    public float value(int e, int property)
            throws NoSuchElementException, IllegalArgumentException {
        checkElement(e);
        checkName(property, PROPERTIES);
        catchUp();
        reckoner.settle(elements[e], property);
        return elements[e].style.values[property];
    }

    public int how(int e, int property) throws NoSuchElementException, IllegalArgumentException {
        checkElement(e);
        checkName(property, PROPERTIES);
        catchUp();
        reckoner.settle(elements[e], property);
        return elements[e].style.hows[property];
    }

    public int count(int what) {
        switch (what) {
            case 0:
                return elementCount;
            case 1:
                return ruleCount;
            case 2:
                return buffer.size();
            default:
                return NONE;
        }
    }

    private boolean isElement(int e) {
        return e >= 0 && e < elementCount;
    }

    private void checkElement(int e) {
        if (!isElement(e)) {
            throw new NoSuchElementException();
        }
    }

    private void checkRule(int k) {
        if (k < 0 || k >= ruleCount) {
            throw new NoSuchElementException();
        }
    }

    private void checkName(int name, int names) {
        if (name < 0 || name >= names) {
            throw new IllegalArgumentException();
        }
    }

    /** Asks all selectors again, once after a change: a new element can undo what matched (:l). */
    private void catchUp() {
        if (!stale) {
            return;
        }
        for (int e = 0; e < elementCount; e++) {
            elements[e].style.clear();
        }
        for (int k = 0; k < ruleCount; k++) {
            rules[k].meet(elements, elementCount);
            enter(rules[k], k);
        }
        stale = false;
    }

    /** Rules must come in their order, because of two alike the later one leads. */
    private void enter(Rule rule, int k) {
        for (int i = 0; i < elementCount; i++) {
            Element e = elements[i];
            int weight = rule.heaviest(e.bit);
            if (weight != NONE) {
                for (Declaration d = rule.declarations; d != null; d = d.next) {
                    e.style.offer(d, k, weight);
                }
            }
        }
    }

    private static boolean isLetter(int c) {
        return c >= 'a' && c <= 'z';
    }

    private static boolean isDigit(int c) {
        return c >= '0' && c <= '9';
    }

    /** An element, with the sets of elements that a selector can ask it for. */
    private static final class Element {
        final Element parent;
        final int tag;
        final int id;
        final int classes;
        final int bit;
        final int above;
        final int before;
        final int justBefore;
        final int childNumber;
        final Style style;
        private int children;
        private int lastChild;

        Element(int number, Element parent, int tag, int id, int classes) {
            this.parent = parent;
            this.tag = tag;
            this.id = id;
            this.classes = classes;
            bit = 1 << number;
            above = parent == null ? 0 : parent.above | parent.bit;
            before = parent == null ? 0 : parent.children;
            justBefore = parent == null ? 0 : parent.lastChild;
            childNumber = Integer.bitCount(before) + 1;
            style = new Style();
            children = 0;
            lastChild = 0;
        }

        void adopt(int child) {
            children |= child;
            lastChild = child;
        }

        boolean isLast() {
            return parent == null || parent.lastChild == bit;
        }

        /** Those that the compound before such a sign may stand for, if this is the one behind. */
        int related(int join) {
            switch (join) {
                case '>':
                    return parent == null ? 0 : parent.bit;
                case '+':
                    return justBefore;
                case '~':
                    return before;
                default:
                    return above;
            }
        }
    }

    /** A part of a compound, but for :x; :f is held as child number 1. */
    private static final class Part {
        static final int ID = 0;
        static final int CLASS = 1;
        static final int LAST = 2;
        static final int CHILD = 3;

        final int kind;
        private final int sought;
        private final int step;
        Part next;

        Part(int kind, int sought, int step) {
            this.kind = kind;
            this.sought = sought;
            this.step = step;
            next = null;
        }

        boolean holds(Element e) {
            switch (kind) {
                case ID:
                    return e.id == sought;
                case CLASS:
                    return (e.classes & sought) != 0;
                case LAST:
                    return e.isLast();
                default:
                    return isReached(e.childNumber - sought);
            }
        }

        private boolean isReached(int distance) {
            return step == 0 ? distance == 0 : distance >= 0 && distance % step == 0;
        }
    }

    /** A compound; its :x compounds stand apart, so that no compound asks itself. */
    private static final class Compound {
        private final int tag;
        private Part parts;
        private Compound excluded;
        int weight;
        int join;
        Compound next;

        Compound(int tag) {
            this.tag = tag;
            parts = null;
            excluded = null;
            weight = tag == 0 ? 0 : 1;
            join = 0;
            next = null;
        }

        void add(Part part) {
            part.next = parts;
            parts = part;
            weight += part.kind == Part.ID ? 10000 : 100;
        }

        void exclude(Compound other) {
            other.next = excluded;
            excluded = other;
            weight += other.weight;
        }

        boolean fits(Element e) {
            for (Compound c = excluded; c != null; c = c.next) {
                if (c.fitsBare(e)) {
                    return false;
                }
            }
            return fitsBare(e);
        }

        private boolean fitsBare(Element e) {
            if (tag != 0 && tag != e.tag) {
                return false;
            }
            for (Part p = parts; p != null; p = p.next) {
                if (!p.holds(e)) {
                    return false;
                }
            }
            return true;
        }
    }

    private static final class Selector {
        private final Compound first;
        final int weight;
        int matched;
        Selector next;

        Selector(Compound first, int weight) {
            this.first = first;
            this.weight = weight;
            matched = 0;
            next = null;
        }

        /** From the left: which elements each compound can stand for, with those before it. */
        void meet(Element[] elements, int count) {
            int found = 0;
            for (Compound c = first; c != null; c = c.next) {
                int here = 0;
                for (int i = 0; i < count; i++) {
                    Element e = elements[i];
                    boolean joined = c == first || (e.related(c.join) & found) != 0;
                    if (joined && c.fits(e)) {
                        here |= e.bit;
                    }
                }
                found = here;
            }
            matched = found;
        }
    }

    private static final class Declaration {
        final int name;
        final int says;
        final int rank;
        final int[] steps;
        final float[] numbers;
        Declaration next;

        Declaration(int name, int says, int rank, int[] steps, float[] numbers) {
            this.name = name;
            this.says = says;
            this.rank = rank;
            this.steps = steps;
            this.numbers = numbers;
            next = null;
        }
    }

    private static final class Rule {
        private final Selector selectors;
        final Declaration declarations;

        Rule(Selector selectors, Declaration declarations) {
            this.selectors = selectors;
            this.declarations = declarations;
        }

        void meet(Element[] elements, int count) {
            for (Selector s = selectors; s != null; s = s.next) {
                s.meet(elements, count);
            }
        }

        int heaviest(int bit) {
            int best = NONE;
            for (Selector s = selectors; s != null; s = s.next) {
                if ((s.matched & bit) != 0) {
                    best = Math.max(best, s.weight);
                }
            }
            return best;
        }
    }

    /**
     * The buffer, and the reading of what it held. A method that reads and finds no text of its
     * sort answers null, false or NONE.
     */
    private static final class TextBuffer {
        private final char[] text;
        private int filled;
        private int length;
        private int at;
        private final int[] steps;
        private final float[] numbers;
        private int stepCount;

        TextBuffer() {
            text = new char[MOST_CHARACTERS];
            filled = 0;
            length = 0;
            at = 0;
            steps = new int[MOST_CHARACTERS];
            numbers = new float[MOST_CHARACTERS];
            stepCount = 0;
        }

        boolean append(int word, int n) {
            if (n < 1 || n > 4 || filled + n > text.length) {
                return false;
            }
            for (int i = 0; i < n; i++) {
                int character = byteOf(word, i);
                if (character < 32 || character > 126) {
                    return false;
                }
            }
            for (int i = n - 1; i >= 0; i--) {
                text[filled] = (char) byteOf(word, i);
                filled++;
            }
            return true;
        }

        int size() {
            return filled;
        }

        /** Empties the buffer; its text can be read until more is appended. */
        void startReading() {
            length = filled;
            filled = 0;
            at = 0;
        }

        boolean isAtEnd() {
            return at == length;
        }

        Selector readSelectors() {
            Selector first = readSelector();
            Selector last = first;
            for (int n = 1; n < MOST_SELECTORS && last != null && take(','); n++) {
                last.next = readSelector();
                last = last.next;
            }
            return last == null ? null : first;
        }

        private Selector readSelector() {
            Compound first = readCompound(false);
            Compound last = first;
            int weight = first == null ? 0 : first.weight;
            for (int n = 1; n < MOST_COMPOUNDS && last != null && isJoin(peek()); n++) {
                int join = next();
                Compound behind = readCompound(false);
                if (behind != null) {
                    behind.join = join;
                    weight += behind.weight;
                }
                last.next = behind;
                last = behind;
            }
            return last == null ? null : new Selector(first, weight);
        }

        private Compound readCompound(boolean inExclusion) {
            int sign = peek();
            boolean opened = sign == '*' || isLetter(sign);
            if (opened) {
                at++;
            }
            Compound compound = new Compound(isLetter(sign) ? sign : 0);
            for (int n = 0; n < MOST_PARTS && isPartSign(peek()); n++) {
                if (!readPart(compound, inExclusion)) {
                    return null;
                }
                opened = true;
            }
            return opened ? compound : null;
        }

        private boolean readPart(Compound compound, boolean inExclusion) {
            int sign = next();
            int letter = next();
            Part part = null;
            if (sign == '#') {
                part = isLetter(letter) ? new Part(Part.ID, letter, 0) : null;
            } else if (sign == '.') {
                boolean known = letter >= 'a' && letter <= 'h';
                part = known ? new Part(Part.CLASS, 1 << letter - 'a', 0) : null;
            } else if (letter == 'f') {
                part = new Part(Part.CHILD, 1, 0);
            } else if (letter == 'l') {
                part = new Part(Part.LAST, 0, 0);
            } else if (letter == 'n') {
                part = readChildNumber();
            } else if (letter == 'x' && !inExclusion) {
                return readExclusion(compound);
            }
            if (part != null) {
                compound.add(part);
            }
            return part != null;
        }

        private boolean readExclusion(Compound compound) {
            Compound excluded = take('(') ? readCompound(true) : null;
            if (excluded == null || !take(')')) {
                return false;
            }
            compound.exclude(excluded);
            return true;
        }

        private Part readChildNumber() {
            int digit = take('(') ? readDigit() : NONE;
            boolean stepping = take('n');
            int sign = 0;
            if (stepping) {
                sign = take('+') ? 1 : take('-') ? -1 : 0;
            }
            int offset = sign == 0 ? 0 : readDigit();
            if (digit == NONE || offset == NONE || !take(')')) {
                return null;
            }
            return stepping
                    ? new Part(Part.CHILD, sign * offset, digit) : new Part(Part.CHILD, digit, 0);
        }

        /** From the brace to the end of the text. */
        Declaration readDeclarations(int origin) {
            Declaration first = take('{') ? readDeclaration(origin) : null;
            Declaration last = first;
            for (int n = 1; n < MOST_DECLARATIONS && last != null && take(';'); n++) {
                last.next = readDeclaration(origin);
                last = last.next;
            }
            return last != null && take('}') && isAtEnd() ? first : null;
        }

        private Declaration readDeclaration(int origin) {
            int name = readName();
            if (name == NONE || !take(':')) {
                return null;
            }
            stepCount = 0;
            int says = takeWord("inherit") ? INHERIT
                    : takeWord("initial") ? INITIAL : readSum(0) ? SUM : NONE;
            if (says == NONE) {
                return null;
            }
            // Important ones stand above all others, and the lower origin above the higher.
            int rank = take('!') ? 2 * ORIGINS - 1 - origin : origin;
            return new Declaration(name, says, rank,
                    Arrays.copyOf(steps, stepCount), Arrays.copyOf(numbers, stepCount));
        }

        private int readName() {
            switch (next()) {
                case 'c':
                    return C;
                case 'f':
                    return F;
                case 'w':
                    return W;
                case 'h':
                    return H;
                case 'm':
                    return M;
                case 'z':
                    return Z;
                case '$':
                    int named = readNamed();
                    return named == NONE ? NONE : PROPERTIES + named;
                default:
                    return NONE;
            }
        }

        private int readNamed() {
            int letter = next();
            return letter >= 'a' && letter <= 'd' ? letter - 'a' : NONE;
        }

        /** Sums are kept as steps for a stack: both operands, then the sign. */
        private boolean readSum(int depth) {
            if (!readProduct(depth)) {
                return false;
            }
            for (int n = 0; n < MOST_CHARACTERS; n++) {
                int step = take('+') ? PLUS : take('-') ? MINUS : NONE;
                if (step == NONE) {
                    break;
                }
                if (!readProduct(depth)) {
                    return false;
                }
                keep(step, 0);
            }
            return true;
        }

        private boolean readProduct(int depth) {
            if (!readFactor(depth)) {
                return false;
            }
            for (int n = 0; n < MOST_CHARACTERS; n++) {
                int step = take('*') ? TIMES : take('/') ? OVER : NONE;
                if (step == NONE) {
                    break;
                }
                if (!readFactor(depth)) {
                    return false;
                }
                keep(step, 0);
            }
            return true;
        }

        private boolean readFactor(int depth) {
            if (depth > DEEPEST_FACTOR) {
                return false;
            }
            if (take('-')) {
                if (!readFactor(depth + 1)) {
                    return false;
                }
                keep(NEGATE, 0);
                return true;
            }
            if (take('(')) {
                return readSum(depth + 1) && take(')');
            }
            if (take('$')) {
                int named = readNamed();
                if (named == NONE) {
                    return false;
                }
                keep(NAMED + named, 0);
                return true;
            }
            return readNumber();
        }

        private boolean readNumber() {
            int digits = readDigit();
            if (digits == NONE) {
                return false;
            }
            for (int n = 1; n < MOST_DIGITS && isDigit(peek()); n++) {
                digits = 10 * digits + readDigit();
            }
            float number = (float) digits;
            if (take('.')) {
                int tenth = readDigit();
                if (tenth == NONE) {
                    return false;
                }
                number = (float) (10 * digits + tenth) / 10f;
            }
            keep(take('p') ? POINTS : take('e') ? EMS : take('%') ? PERCENT : NUMBER, number);
            return true;
        }

        private void keep(int step, float number) {
            if (stepCount < steps.length) {
                steps[stepCount] = step;
                numbers[stepCount] = number;
                stepCount++;
            }
        }

        private int readDigit() {
            if (at < length && text[at] >= '0' && text[at] <= '9') {
                at++;
                return text[at - 1] - '0';
            }
            return NONE;
        }

        private int peek() {
            return at < length ? text[at] : NONE;
        }

        private int next() {
            if (at < length) {
                at++;
                return text[at - 1];
            }
            return NONE;
        }

        private boolean take(char sign) {
            boolean there = at < length && text[at] == sign;
            if (there) {
                at++;
            }
            return there;
        }

        private boolean takeWord(String word) {
            if (word.length() > length - at) {
                return false;
            }
            for (int i = 0; i < word.length(); i++) {
                if (text[at + i] != word.charAt(i)) {
                    return false;
                }
            }
            at += word.length();
            return true;
        }

        private static int byteOf(int word, int i) {
            return word >>> 8 * i & 255;
        }

        private static boolean isJoin(int c) {
            return c == ' ' || c == '>' || c == '+' || c == '~';
        }

        private static boolean isPartSign(int c) {
            return c == '#' || c == '.' || c == ':';
        }
    }

    /** What stands for one element: for each name what leads, and the values worked out so far. */
    private static final class Style {
        final Declaration[] leading;
        private final int[] leadingRules;
        private final int[] leadingWeights;
        final float[] values;
        final int[] hows;

        // What named values that were found at this element give for the sum that is worked out.
        final int[] namedKinds;
        final float[] namedAmounts;

        Style() {
            leading = new Declaration[NAMES];
            leadingRules = new int[NAMES];
            leadingWeights = new int[NAMES];
            values = new float[PROPERTIES];
            hows = new int[PROPERTIES];
            namedKinds = new int[NAMED_VALUES];
            namedAmounts = new float[NAMED_VALUES];
        }

        void clear() {
            for (int n = 0; n < NAMES; n++) {
                leading[n] = null;
            }
            Arrays.fill(hows, NOT_YET);
        }

        void offer(Declaration d, int rule, int weight) {
            int n = d.name;
            Declaration old = leading[n];
            boolean leads = old == null || d.rank > old.rank
                    || d.rank == old.rank && weight >= leadingWeights[n];
            if (leads) {
                leading[n] = d;
                leadingRules[n] = rule;
                leadingWeights[n] = weight;
            }
        }

        int leadingRule(int n) {
            return leading[n] == null ? NONE : leadingRules[n];
        }
    }

    /** Works out values. */
    private static final class Reckoner {
        private final Element[] path;

        // The sum that is worked out: what its units stand for, and its stack.
        private int wanted;
        private float em;
        private float whole;
        private final int[] kinds;
        private final float[] amounts;
        private int height;

        // Named values that are begun and not ended, each needed by the one before.
        private final Element[] openPlaces;
        private final int[] openNames;
        private int openCount;

        Reckoner() {
            path = new Element[MOST_ELEMENTS];
            // A factor waits, at each depth, for one sum and one product.
            kinds = new int[2 * DEEPEST_FACTOR + 3];
            amounts = new float[2 * DEEPEST_FACTOR + 3];
            openPlaces = new Element[MOST_ELEMENTS * NAMED_VALUES];
            openNames = new int[MOST_ELEMENTS * NAMED_VALUES];
        }

        /** Parents first, and f first: so a sum asks only for values that stand already. */
        void settle(Element element, int property) {
            int steps = 0;
            for (Element e = element; e != null && steps < path.length; e = e.parent) {
                path[steps] = e;
                steps++;
            }
            for (int i = steps - 1; i >= 0; i--) {
                settleAt(path[i], F);
                settleAt(path[i], property);
            }
        }

        private void settleAt(Element e, int property) {
            Style style = e.style;
            if (style.hows[property] != NOT_YET) {
                return;
            }
            Declaration d = style.leading[property];
            float initial = property == F ? FIRST_F : 0;
            float inherited = e.parent == null ? initial : e.parent.style.values[property];
            float value = property == C || property == F ? inherited : initial;
            int how = BY_NOTHING;
            if (d != null && d.says != SUM) {
                how = BY_WORD;
                value = d.says == INHERIT ? inherited : initial;
            } else if (d != null) {
                setUnits(e, property);
                workOut(d, e);
                how = kinds[0] == wanted ? BY_SUM : BY_BROKEN_SUM;
                value = kinds[0] == wanted ? amounts[0] : value;
            }
            style.hows[property] = how;
            style.values[property] = value;
        }

        private void setUnits(Element e, int property) {
            Element parent = e.parent;
            wanted = property == C || property == Z ? PLAIN : LENGTH;
            whole = parent == null ? 0 : parent.style.values[property];
            if (property != F) {
                em = e.style.values[F];
            } else {
                em = parent == null ? FIRST_F : whole;
            }
        }

        /**
         * Leaves what the sum gives at the bottom of the stack. A sum that needs a named value not
         * known yet is begun again when that is known: so long chains of names nest no calls, and
         * each is worked out once.
         */
        private void workOut(Declaration wanting, Element element) {
            for (Element e = element; e != null; e = e.parent) {
                Arrays.fill(e.style.namedKinds, UNKNOWN);
            }
            openCount = 0;
            // Each named value is opened once and ended once.
            for (int turn = 0; turn <= 2 * openNames.length; turn++) {
                int last = openCount - 1;
                Element place = last < 0 ? element : openPlaces[last];
                Declaration sum = last < 0 ? wanting : place.style.leading[openNames[last]];
                if (pass(sum, place)) {
                    if (last < 0) {
                        return;
                    }
                    int named = openNames[last] - PROPERTIES;
                    place.style.namedKinds[named] = kinds[0];
                    place.style.namedAmounts[named] = amounts[0];
                    openCount = last;
                }
            }
        }

        /** False when the sum must wait for a named value, which is opened then. */
        private boolean pass(Declaration sum, Element place) {
            height = 0;
            boolean sound = true;
            for (int i = 0; i < sum.steps.length && sound; i++) {
                int step = sum.steps[i];
                if (step >= NAMED) {
                    int named = step - NAMED;
                    Element found = find(PROPERTIES + named, place);
                    if (found != null && found.style.namedKinds[named] == UNKNOWN) {
                        open(PROPERTIES + named, found);
                        return false;
                    }
                    sound = found != null && push(
                            found.style.namedKinds[named], found.style.namedAmounts[named]);
                } else if (step <= PERCENT) {
                    sound = pushNumber(step, sum.numbers[i]);
                } else {
                    sound = step == NEGATE ? negate() : combine(step);
                }
            }
            if (!sound) {
                kinds[0] = BROKEN;
            }
            return true;
        }

        /** The place where a sum stands for the name. */
        private Element find(int name, Element place) {
            for (Element e = place; e != null; e = e.parent) {
                Declaration d = e.style.leading[name];
                if (d != null && d.says != INHERIT) {
                    return d.says == SUM ? e : null;
                }
            }
            return null;
        }

        private void open(int name, Element place) {
            place.style.namedKinds[name - PROPERTIES] = OPEN;
            if (openCount < openNames.length) {
                openPlaces[openCount] = place;
                openNames[openCount] = name;
                openCount++;
            }
        }

        /** False for what is broken: a broken part breaks the whole sum. */
        private boolean push(int kind, float amount) {
            boolean known = kind == PLAIN || kind == LENGTH;
            if (!known || amount > MOST_AMOUNT || amount < -MOST_AMOUNT || height >= kinds.length) {
                return false;
            }
            kinds[height] = kind;
            amounts[height] = amount;
            height++;
            return true;
        }

        private boolean pushNumber(int unit, float number) {
            switch (unit) {
                case POINTS:
                    return push(LENGTH, number);
                case EMS:
                    return push(LENGTH, number * em);
                case PERCENT:
                    return push(wanted, number * whole / 100f);
                default:
                    return push(PLAIN, number);
            }
        }

        private boolean negate() {
            if (height < 1) {
                return false;
            }
            amounts[height - 1] = -amounts[height - 1];
            return true;
        }

        private boolean combine(int step) {
            if (height < 2) {
                return false;
            }
            height -= 2;
            int kind = kinds[height];
            int other = kinds[height + 1];
            float left = amounts[height];
            float right = amounts[height + 1];
            switch (step) {
                case PLUS:
                    return kind == other && push(kind, left + right);
                case MINUS:
                    return kind == other && push(kind, left - right);
                case TIMES:
                    boolean scaled = kind == PLAIN || other == PLAIN;
                    return scaled && push(kind == PLAIN ? other : kind, left * right);
                default:
                    return other == PLAIN && right != 0 && push(kind, left / right);
            }
        }
    }
}
