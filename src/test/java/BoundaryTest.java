import java.util.ArrayList;
import java.util.List;

/**
 * The boundary cases of ../shared/DOC.md, sentence by sentence: what is too small, too large,
 * empty, full, wraps around or is refused. Each group of tests begins with its sentence.
 */
public final class BoundaryTest {
    private static final String ARGUMENT = "IllegalArgumentException";
    private static final String STATE = "IllegalStateException";
    private static final String ELEMENT = "NoSuchElementException";
    private static final int MIN = Integer.MIN_VALUE;
    private static final int MAX = Integer.MAX_VALUE;
    private static final int C = 0;
    private static final int F = 1;
    private static final int W = 2;
    private static final int H = 3;
    private static final int M = 4;
    private static final int Z = 5;
    private static final String[] NAMES = {"c", "f", "w", "h", "m", "z", "$a", "$b", "$c", "$d"};
    private static String sentence = "";
    private static int sentences = 0;
    private static int askedOfSentence = 1;
    private static int asked = 0;
    private static int wrong = 0;

    private interface Call {
        Object run();
    }

    private interface Recipe {
        StyleDesk make();
    }

    private interface Ask {
        Object of(StyleDesk d);
    }

    public static void main(String[] args) {
        calls();
        elements();
        tagsIdsClasses();
        bufferTerms();
        spaces();
        selectorLists();
        relations();
        compounds();
        simpleParts();
        childNumbers();
        exclusions();
        weights();
        ruleTexts();
        names();
        sums();
        numbers();
        depths();
        ruleTerms();
        winners();
        floats();
        firstValues();
        values();
        units();
        kinds();
        zeros();
        tooMuch();
        tooMuchInside();
        named();
        namedPlaces();
        circles();
        newObject();
        elementCalls();
        elementRefused();
        putCalls();
        putFull();
        ruleCalls();
        ruleLeftovers();
        ruleRefused();
        dropCalls();
        matchesCalls();
        weightCalls();
        winnerCalls();
        valueCalls();
        howCalls();
        countCalls();
        says("");
        System.out.println(sentences + " sentences, " + asked + " answers asked, "
                + wrong + " wrong");
        if (wrong != 0) {
            System.exit(1);
        }
    }

    // What it is, and the public face

    private static void calls() {
        says("An object is used for at most 512 calls after it has been made");
        StyleDesk d = new StyleDesk();
        int calls = 0;
        for (int i = 0; i < 24; i++, calls++) {
            int number = i;
            due("element", () -> d.element(number - 1, 'a', 'a', 255), i);
        }
        String text = "#a#a#a#a #a#a#a#a #a#a#a#a #a#a#a#a,#a#a#a#a #a#a#a#a #a#a#a#a,#a#a#a "
                + "#a#a#a#a{$a:1;$b:1e;c:$a*2;w:$b*9}";
        int puts = (text.length() + 3) / 4;
        int kept = 0;
        while (calls + puts + 2 <= 512 - 3) {
            type(d, text);
            int number = kept;
            due("rule", () -> d.rule(1), number);
            if (kept == 15) {
                d.drop(0);
            } else {
                d.count(0);
                kept++;
            }
            calls += puts + 2;
        }
        while (calls < 512 - 3) {
            due("count", () -> d.count(2), 0);
            calls++;
        }
        int rules = kept;
        due("call 510", () -> d.weight(0, 23), 160000);
        due("call 511", () -> d.winner(23, W), rules - 1);
        due("call 512", () -> d.value(23, W), 144f);

        says("public static final int NONE = -1;");
        due("NONE", () -> StyleDesk.NONE, -1);
    }

    // Terms: elements

    private static void elements() {
        says("ELEMENTS 0, 1, .. (at most 24)");
        StyleDesk d = new StyleDesk();
        for (int i = 0; i < 24; i++) {
            int number = i;
            due("element " + i, () -> d.element(number == 0 ? -1 : 0, 'a', 0, 0), i);
        }
        due("the last stands", () -> matches(d, "*:n(9n+5):l", 23), true);
        due("one too many", () -> d.element(0, 'a', 0, 0), STATE);
        due("24 stay", () -> d.count(0), 24);
        due("there is no 24", () -> d.value(24, C), ELEMENT);

        says("each but 0, the root, is a child of an earlier one, behind its children so far");
        StyleDesk e = new StyleDesk();
        due("the root has no parent", () -> e.element(0, 'r', 0, 0), ARGUMENT);
        e.element(-1, 'r', 0, 0);
        due("not a child of itself", () -> e.element(1, 'a', 0, 0), ARGUMENT);
        due("not without a parent", () -> e.element(-1, 'a', 0, 0), ARGUMENT);
        e.element(0, 'a', 0, 0);
        e.element(1, 'b', 0, 0);
        e.element(0, 'c', 0, 0);
        e.element(1, 'd', 0, 0);
        e.element(4, 'e', 0, 0);
        e.element(0, 'f', 0, 0);
        due("first child of 0", () -> matches(e, "r>:n(1)", 1), true);
        due("second child of 0", () -> matches(e, "a+c:n(2)", 3), true);
        due("third child of 0", () -> matches(e, "c+f:n(3)", 6), true);
        due("first child of 1", () -> matches(e, "a>b:n(1)", 2), true);
        due("second child of 1", () -> matches(e, "b+d:n(2)", 4), true);
        due("first child of 4", () -> matches(e, "d>e:f:l", 5), true);
        due("no child of 0", () -> matches(e, "r>e", 5), false);
    }

    private static void tagsIdsClasses() {
        says("it has a TAG (a letter a .. z)");
        for (char tag = 'a'; tag <= 'z'; tag++) {
            StyleDesk d = new StyleDesk();
            int asTag = tag;
            due("tag " + tag, () -> d.element(-1, asTag, 0, 0), 0);
            String text = "" + tag;
            due("tag " + tag + " matches", () -> matches(d, text, 0), true);
            String other = "" + (char) (tag == 'z' ? 'a' : tag + 1);
            due("tag " + tag + " as " + other, () -> matches(d, other, 0), false);
        }

        says("an ID (a letter, or none)");
        for (char id = 'a'; id <= 'z'; id++) {
            StyleDesk d = new StyleDesk();
            StyleDesk none = new StyleDesk();
            int asId = id;
            due("ID " + id, () -> d.element(-1, 'a', asId, 0), 0);
            due("no ID", () -> none.element(-1, asId, 0, 0), 0);
            String text = "#" + id;
            due("ID " + id + " matches", () -> matches(d, text, 0), true);
            due("no ID is not " + id, () -> matches(none, text, 0), false);
            String other = "#" + (char) (id == 'a' ? 'z' : id - 1);
            due("ID " + id + " as " + other, () -> matches(d, other, 0), false);
        }

        says("CLASSES (of the letters a .. h, as bits: 1 for a)");
        for (int bits : new int[] {0, 1, 2, 4, 8, 16, 32, 64, 128, 127, 254, 255, 170, 85}) {
            StyleDesk d = new StyleDesk();
            due("classes " + bits, () -> d.element(-1, 'a', 0, bits), 0);
            for (int i = 0; i < 8; i++) {
                String text = "." + (char) ('a' + i);
                boolean in = (bits & 1 << i) != 0;
                due(text + " of classes " + bits, () -> matches(d, text, 0), in);
            }
            due(".i of classes " + bits, () -> matches(d, ".i", 0), ARGUMENT);
        }
    }

    // Terms: the buffer and texts

    private static void bufferTerms() {
        says("THE BUFFER holds at most 120 characters, 32 .. 126");
        for (int c = 0; c < 256; c++) {
            StyleDesk d = new StyleDesk();
            int character = c;
            boolean taken = c >= 32 && c <= 126;
            due("character " + c, () -> d.put(character, 1), taken);
            due("character " + c + " counts", () -> d.count(2), taken ? 1 : 0);
        }
        StyleDesk d = new StyleDesk();
        for (int i = 0; i < 120; i++) {
            due("character number " + (i + 1), () -> d.put('~', 1), true);
        }
        due("character number 121", () -> d.put(' ', 1), false);
        due("120 stay", () -> d.count(2), 120);
    }

    /** In the texts here a _ stands where a space makes two compounds of one. */
    private static void spaces() {
        says("Texts have no spaces but where one is said");
        String[] texts = {
            "a_#x_:n(2n+1)>*_:x(b.c),d{c:-1.5*(2+$a)!;$b:inherit;f:initial;w:1e/3}",
            "a+b~.c_.d{z:1%-0.5}", ":x(:n(3n-2)){h:(12p)}"};
        for (String marked : texts) {
            String text = marked.replace("_", "");
            due("without: " + text, () -> rule(new StyleDesk(), 0, text), 0);
            int at = 0;
            for (int i = 0; i <= text.length(); i++, at++) {
                boolean said = at < marked.length() && marked.charAt(at) == '_';
                at += said ? 1 : 0;
                String spaced = text.substring(0, i) + " " + text.substring(i);
                due("rule " + spaced, () -> rule(new StyleDesk(), 0, spaced), said ? 0 : ARGUMENT);
                if (i <= text.indexOf('{')) {
                    String selectors = spaced.substring(0, text.indexOf('{') + 1);
                    due("selectors " + selectors, () -> matches(tree(), selectors, 0),
                            said ? (Object) false : ARGUMENT);
                }
            }
        }
        String two = "a  b";
        due("two spaces", () -> matches(tree(), two, 1), ARGUMENT);
    }

    // Terms: selectors

    private static void selectorLists() {
        says("SELECTORS: a list of 1 to 3 with , between");
        accepted("a");
        accepted("a,b");
        accepted("a,b,c");
        accepted("a b>c+d,a~b c>d,a+b~c d");
        refused("");
        refused(",");
        refused("a,");
        refused(",a");
        refused("a,,b");
        refused("a,b,");
        refused("a,b,c,");
        refused("a,b,c,d");

        says("each 1 to 4 COMPOUNDS with one of these between");
        for (char sign : new char[] {' ', '>', '+', '~'}) {
            accepted("a" + sign + "b");
            accepted("a" + sign + "b" + sign + "c");
            accepted("a" + sign + "b" + sign + "c" + sign + "d");
            refused("a" + sign + "b" + sign + "c" + sign + "d" + sign + "e");
            refused("" + sign);
            refused("a" + sign);
            refused(sign + "a");
            refused("a" + sign + ",b");
            refused("a" + sign + "b" + sign + "c" + sign + "d" + sign);
            for (char other : new char[] {' ', '>', '+', '~'}) {
                refused("a" + sign + other + "b");
            }
        }
        refused("a<b");
        refused("a-b");
        refused("a*b");
        refused("a;b");
    }

    private static void relations() {
        says("a space (the one before is an ANCESTOR of the one behind), > (its parent)");
        StyleDesk deep = row(true);
        due("the root has no ancestor", () -> matches(deep, "* *", 0), false);
        due("the root has no parent", () -> matches(deep, "*>*", 0), false);
        due("an element is no ancestor of itself", () -> matches(deep, "x x", 23), false);
        due("nor its own parent", () -> matches(deep, "x>x", 23), false);
        due("a child's ancestor", () -> matches(deep, "r m", 1), true);
        due("a child's parent", () -> matches(deep, "r>m", 1), true);
        due("the parent's parent is an ancestor", () -> matches(deep, "r m", 2), true);
        due("and no parent", () -> matches(deep, "r>m", 2), false);
        due("the farthest ancestor", () -> matches(deep, "r x", 23), true);
        due("the farthest is no parent", () -> matches(deep, "r>x", 23), false);
        due("a child is no ancestor", () -> matches(deep, "x m", 22), false);
        due("four in a row", () -> matches(deep, "r>m m>x", 23), true);
        due("three below the root", () -> matches(deep, "* * * *", 3), true);
        due("two below the root", () -> matches(deep, "* * * *", 2), false);

        says("+ (the sibling just before it), ~ (a sibling before it)");
        StyleDesk wide = row(false);
        due("the root has none just before", () -> matches(wide, "*+*", 0), false);
        due("the root has none before", () -> matches(wide, "*~*", 0), false);
        due("the first child has none just before", () -> matches(wide, "*+*", 1), false);
        due("the first child has none before", () -> matches(wide, "*~*", 1), false);
        due("the second child's is just before", () -> matches(wide, ":f+m", 2), true);
        due("and before", () -> matches(wide, ":f~m", 2), true);
        due("the third child's first is not just before", () -> matches(wide, ":f+m", 3), false);
        due("but before", () -> matches(wide, ":f~m", 3), true);
        due("the farthest one before", () -> matches(wide, ":f~x", 23), true);
        due("the farthest is not just before", () -> matches(wide, ":f+x", 23), false);
        due("not itself", () -> matches(wide, "x~x", 23), false);
        due("not one behind", () -> matches(wide, "x~m", 22), false);
        due("not just behind", () -> matches(wide, "x+m", 22), false);
        due("no parent", () -> matches(wide, "r+m", 1), false);
        due("no parent before", () -> matches(wide, "r~m", 2), false);
        StyleDesk cousins = tree();
        due("no cousin just before", () -> matches(cousins, "i+i", 6), false);
        due("no cousin before", () -> matches(cousins, "i~i", 6), false);

        says("It MATCHES an element if its last compound does, and elements can be found for "
                + "the others");
        due("the last does not", () -> matches(deep, "r m", 23), false);
        due("none for the first", () -> matches(deep, "q x", 23), false);
        due("not the nearest, but a farther one", () -> matches(deep, "r>m x", 23), true);
        due("not just the first that fits", () -> matches(wide, "m:n(5)~m+x", 23), true);
        due("the one before it does not fit", () -> matches(wide, "m:n(5)+m+x", 23), false);
        due("up and aside", () -> matches(cousins, "#x~b>i:f+i", 7), true);
        due("up and aside, no such one", () -> matches(cousins, "#x>b>i:f+i", 7), false);
        due("down again is no way", () -> matches(cousins, "i b", 2), false);
    }

    private static void compounds() {
        says("perhaps a tag or * (any), then up to 4 PARTS (at least one, if there is no tag or "
                + "*)");
        for (String tag : new String[] {"", "*", "b"}) {
            for (String part : new String[] {"#x", ".a", ":f", ":n(1)", ":x(z)"}) {
                String text = tag;
                for (int parts = 1; parts <= 4; parts++) {
                    text = text + part;
                    accepted(text);
                }
                refused(text + part);
                refused(text + part + part);
            }
        }
        accepted("*");
        accepted("b");
        refused("");
        refused("a,");
        refused("a>,b");
        refused("**");
        refused("bb");
        refused("*b");
        refused("b*");
        refused(".ab");
        refused(".a*");
        refused("#x.a:f:l:x(z)");
        accepted("#x.a:f:x(z)");
        accepted("b#x.a:f:x(z)>*.a.b.c.d");

        says("it matches an element with that tag for which all parts hold");
        matched("b#x.a:f:n(1)", "1");
        matched("c#x.a:f:n(1)", "");
        matched("b#y.a:f:n(1)", "");
        matched("b#x.b:f:n(1)", "");
        matched("b#x.a:l:n(1)", "");
        matched("b#x.a:f:n(2)", "");
        matched("*#x.a:f:n(1)", "1");
        matched("*", "01234567");
    }

    private static void simpleParts() {
        says("#x that ID;  .x a class");
        for (char c = ' '; c <= '~'; c++) {
            boolean letter = c >= 'a' && c <= 'z';
            if (letter) {
                accepted("#" + c);
            } else {
                refused("#" + c);
            }
            if (letter && c <= 'h') {
                accepted("." + c);
            } else {
                refused("." + c);
            }
            if (c == 'f' || c == 'l') {
                accepted(":" + c);
            } else {
                refused(":" + c);
            }
        }
        refused("#");
        refused(".");
        refused(":");

        says(":f the first child of its parent (the root, too)");
        matched(":f", "0156");
        StyleDesk d = row(false);
        due("first of 23", () -> matches(d, ":f", 1), true);
        due("second of 23", () -> matches(d, ":f", 2), false);

        says(":l the last one (likewise)");
        matched(":l", "0457");
        due("the last of 23", () -> matches(d, ":l", 23), true);
        due("the one before the last", () -> matches(d, ":l", 22), false);
        StyleDesk e = new StyleDesk();
        rule(e, 0, ":l{z:1}");
        e.element(-1, 'a', 0, 0);
        due("the root alone", () -> e.value(0, Z), 1f);
        e.element(0, 'a', 0, 0);
        due("the root with a child", () -> e.value(0, Z), 1f);
        due("the only child", () -> e.value(1, Z), 1f);
        e.element(0, 'a', 0, 0);
        due("no longer the last", () -> e.value(1, Z), 0f);
        due("the last now", () -> e.value(2, Z), 1f);
        e.element(1, 'a', 0, 0);
        due("a child of another changes nothing", () -> e.value(2, Z), 1f);
    }

    private static void childNumbers() {
        says(":n(a) or :n(an) or :n(an+b) or :n(an-b), a and b digits");
        for (char c = ' '; c <= '~'; c++) {
            boolean digit = c >= '0' && c <= '9';
            String[] texts = {":n(" + c + ")", ":n(" + c + "n)", ":n(1n+" + c + ")",
                ":n(1n-" + c + ")", ":n(" + c + "n+1)", ":n(" + c + "n-1)"};
            for (String text : texts) {
                if (digit) {
                    accepted(text);
                } else {
                    refused(text);
                }
            }
        }
        String[] bad = {":n", ":n(", ":n()", ":n(n)", ":n(n+1)", ":n(1", ":n(1n", ":n(1n+1", ":n1",
            ":n(10)", ":n(10n)", ":n(1n+10)", ":n(1n-10)", ":n(1n+)", ":n(1n-)", ":n(1+1)",
            ":n(1-1)", ":n(+1)", ":n(-1)", ":n(-1n)", ":n(1nn)", ":n(1n1)", ":n(1n+-1)",
            ":n(1n*1)", ":n(1N)", ":n(1))", ":n((1))", ":n(1n+1n)", ":n(1p)"};
        for (String text : bad) {
            refused(text);
        }

        says("it is, counted from 1 (the root is number 1), child number a, or a * k + b for a "
                + "number k from 0 on (b 0, if it is not there)");
        StyleDesk d = row(false);
        StyleDesk root = tree();
        for (int a = 0; a < 10; a++) {
            for (int b = -9; b < 10; b++) {
                String text = ":n(" + a + "n" + (b < 0 ? "" : "+") + b + ")";
                // Rules, since calls are few.
                StyleDesk e = row(false);
                rule(e, 0, text + "{z:1}");
                for (int child = 1; child < 24; child++) {
                    int number = child;
                    boolean in = isReached(a, b, child);
                    due(text + " of child " + child, () -> e.value(number, Z), in ? 1f : 0f);
                }
                boolean in = isReached(a, b, 1);
                due(text + " of the root", () -> e.value(0, Z), in ? 1f : 0f);
            }
            String alone = ":n(" + a + ")";
            String steps = ":n(" + a + "n)";
            StyleDesk e = row(false);
            rule(e, 0, alone + "{z:1}");
            rule(e, 0, steps + "{w:1p}");
            for (int child = 1; child < 24; child++) {
                int number = child;
                due(alone + " of child " + child, () -> e.value(number, Z),
                        child == number(alone) ? 1f : 0f);
                boolean in = number(steps) != 0 && child % number(steps) == 0;
                due(steps + " of child " + child, () -> e.value(number, W), in ? 1f : 0f);
            }
        }
        due("the root is number 1", () -> matches(root, ":n(1)", 0), true);
        due("the root is not number 0", () -> matches(root, ":n(0)", 0), false);
        due("the root is not number 2", () -> matches(root, ":n(2)", 0), false);
        due("no child is number 0", () -> matches(d, ":n(0n+0)", 1), false);
        due("-0 is 0", () -> matches(d, ":n(2n-0)", 2), true);
    }

    private static int number(String text) {
        return text.charAt(3) - '0';
    }

    private static boolean isReached(int a, int b, int child) {
        for (int k = 0; k < 100; k++) {
            if (a * k + b == child) {
                return true;
            }
        }
        return false;
    }

    private static void exclusions() {
        says(":x(C) a compound C, in which there is no :x, does not match");
        accepted(":x(a)");
        accepted(":x(*)");
        accepted(":x(.a)");
        accepted(":x(a#x.a:f:n(1n-1))");
        accepted(":x(#x.a:f:l)");
        accepted("a:x(a):x(a):x(a):x(a)");
        accepted("a:x(a.a.a.a.a).a.a.a");
        refused(":x()");
        refused(":x");
        refused(":x(");
        refused(":x(a");
        refused(":xa");
        refused(":x(a.a.a.a.a.a)");
        refused(":x(.a.a.a.a.a)");
        refused(":x(:x(a))");
        refused(":x(a:x(a))");
        refused(":x(a.a.a.a:x(a))");
        refused(":x(a b)");
        refused(":x(a>b)");
        refused(":x(a+b)");
        refused(":x(a~b)");
        refused(":x(a,b)");
        refused(":x(a))");
        refused(":x((a))");
        refused(":x(a):x(a):x(a):x(a):x(a)");
        matched(":x(*)", "");
        matched(":x(z)", "01234567");
        matched(":x(:f)", "2347");
        matched(":x(:l)", "1236");
        matched(":x(b.a)", "034567");
        matched("b:x(.a):x(.h)", "");
        matched(":x(a):x(b):x(c):x(i)", "");
        matched(":x(a):x(b):x(c):x(i.a)", "56");
    }

    private static void weights() {
        says("WEIGHT: 10000 for each #x, 100 for each .x, :f, :l and :n, 1 for each tag; for :x "
                + "that of its compound");
        weighed("*", 0);
        weighed("q", 1);
        weighed("#q", 10000);
        weighed(".a", 100);
        weighed(".h", 100);
        weighed(":f", 100);
        weighed(":l", 100);
        weighed(":n(1)", 100);
        weighed(":n(1n)", 100);
        weighed(":n(1n+0)", 100);
        weighed(":n(1n-0)", 100);
        weighed(":x(z)", 1);
        weighed(":x(#z)", 10000);
        weighed(":x(.a#z)", 10100);
        weighed(":x(z.a:f:l:n(1))", 401);
        weighed("*:x(*#z)", 10000);
        weighed("q#q#q#q#q", 40001);
        weighed("q.a.a.a.a", 401);
        weighed("q:x(z):x(z):x(z):x(z)", 5);
        weighed("q:x(#z#z#z#z):x(#z#z#z#z):x(#z#z#z#z):x(#z#z#z#z)", 160001);
        StyleDesk d = row(true);
        rule(d, 0, "* * * *,r m>m>x,r *:x(q)>:f:l x:x(#z){c:1}");
        due("the sum of four", () -> d.weight(0, 23), 10203);
        due("the sum of four tags", () -> d.weight(0, 22), 0);
        rule(d, 0, "r m>m>x{c:1}");
        due("four tags", () -> d.weight(1, 23), 4);
        StyleDesk e = new StyleDesk();
        e.element(-1, 'q', 'q', 255);
        rule(e, 0, "#q{c:1}");
        rule(e, 0, "q.a.b.c:x(z.a.b.c.d){c:2}");
        String most = ":x(z.a.b.c.d)".repeat(4);
        rule(e, 0, "q" + most + "{c:3}");
        due("much of little is less", () -> e.winner(0, C), 0);
        due("more of little", () -> e.weight(2, 0), 1605);
        due("all of it", () -> e.weight(1, 0), 702);
    }

    // Terms: rules

    private static void ruleTexts() {
        says("A RULE: selectors, {, 1 to 4 DECLARATIONS with ; between, }");
        String declarations = "c:1";
        for (int n = 1; n <= 4; n++) {
            String text = "a{" + declarations + "}";
            due(text, () -> rule(new StyleDesk(), 0, text), 0);
            refusedRule("a{" + declarations + ";}");
            refusedRule("a{;" + declarations + "}");
            refusedRule("a{" + declarations);
            refusedRule("a{" + declarations + "}}");
            refusedRule("a{{" + declarations + "}");
            refusedRule("a" + declarations + "}");
            refusedRule("{" + declarations + "}");
            refusedRule("a,{" + declarations + "}");
            refusedRule("a,b,c,d{" + declarations + "}");
            refusedRule("a{" + declarations + "}a{" + declarations + "}");
            declarations = declarations + ";c:1";
        }
        refusedRule("a{" + declarations + "}");
        refusedRule("a{" + declarations + ";c:1}");
        refusedRule("");
        refusedRule("a");
        refusedRule("a{}");
        refusedRule("a{;}");
        refusedRule("a{c:1,c:2}");
        refusedRule("a{c:1;;c:2}");
        due("the fourth counts", () -> value("a{c:1;c:2;c:3;c:4}", C), 4f);

        says("A declaration: a name, :, a value, and perhaps ! (IMPORTANT)");
        for (String value : new String[] {"1", "inherit", "initial", "$a", "(1)", "1%"}) {
            String plain = "a{c:" + value + "}";
            String important = "a{c:" + value + "!}";
            due(plain, () -> rule(new StyleDesk(), 0, plain), 0);
            due(important, () -> rule(new StyleDesk(), 0, important), 0);
            refusedRule("a{c:" + value + "!!}");
            refusedRule("a{c:!" + value + "}");
            refusedRule("a{!c:" + value + "}");
            refusedRule("a{c!:" + value + "}");
            refusedRule("a{c" + value + "}");
            refusedRule("a{c::" + value + "}");
            refusedRule("a{:" + value + "}");
            refusedRule("a{c:c:" + value + "}");
        }
        refusedRule("a{c:}");
        refusedRule("a{c:!}");
        refusedRule("a{c}");
        refusedRule("a{:}");
    }

    private static void names() {
        says("Names: the properties c (number 0), f (1), w (2), h (3), m (4), z (5), and named "
                + "values $a .. $d");
        for (int n = 0; n < 10; n++) {
            int name = n;
            StyleDesk d = tree();
            String text = "a{" + NAMES[n] + ":1}";
            due(text, () -> rule(d, 0, text), 0);
            for (int other = 0; other < 10; other++) {
                int asked = other;
                due("winner of " + NAMES[other] + " by " + text, () -> d.winner(0, asked),
                        other == name ? 0 : -1);
            }
        }
        for (char c = ' '; c <= '~'; c++) {
            if ("cfwhmz".indexOf(c) < 0) {
                refusedRule("a{" + c + ":1}");
            }
            if (c < 'a' || c > 'd') {
                refusedRule("a{$" + c + ":1}");
                refusedRule("a{c:$" + c + "}");
            }
        }
        refusedRule("a{$:1}");
        refusedRule("a{$$a:1}");
        refusedRule("a{$aa:1}");
        refusedRule("a{cf:1}");
    }

    private static void sums() {
        says("Values: inherit, initial, or a SUM");
        String[] words = {"inherit", "initial"};
        for (String word : words) {
            for (int end = 0; end < word.length(); end++) {
                refusedRule("a{c:" + word.substring(0, end) + "}");
            }
            refusedRule("a{c:" + word + "s}");
            refusedRule("a{c:" + word + word + "}");
            refusedRule("a{c:-" + word + "}");
            refusedRule("a{c:(" + word + ")}");
            refusedRule("a{c:" + word + "+1}");
            refusedRule("a{c:1+" + word + "}");
            refusedRule("a{c:" + word.toUpperCase() + "}");
            for (int i = 0; i < word.length(); i++) {
                refusedRule("a{c:" + word.substring(0, i) + "x" + word.substring(i + 1) + "}");
                refusedRule("a{c:" + word.substring(0, i) + word.substring(i + 1) + "}");
            }
        }

        says("products with + or - between; a PRODUCT: factors with * or / between");
        for (char sign : new char[] {'+', '-', '*', '/'}) {
            String most = "1";
            while (most.length() < 109) {
                most = most + sign + "1";
                String text = "a{z:" + most + "}";
                due(text, () -> rule(new StyleDesk(), 0, text), 0);
            }
            refusedRule("a{z:" + sign + "}");
            refusedRule("a{z:1" + sign + "}");
            refusedRule("a{z:(1" + sign + ")}");
            refusedRule("a{z:1" + sign + "+1}");
            refusedRule("a{z:1" + sign + "*1}");
            refusedRule("a{z:1" + sign + "/1}");
            if (sign != '-') {
                refusedRule("a{z:" + sign + "1}");
                refusedRule("a{z:-" + sign + "1}");
            }
        }
        StringBuilder longest = new StringBuilder("*{z:1");
        while (longest.length() + 2 < 120) {
            longest.append("+1");
        }
        String text = longest.append('}').toString();
        due("length", () -> text.length(), 120);
        due("the longest sum", () -> value(text, Z), 58f);

        says("a sum in parentheses, or $a .. $d");
        refusedRule("a{z:()}");
        refusedRule("a{z:(}");
        refusedRule("a{z:)}");
        refusedRule("a{z:(1}");
        refusedRule("a{z:1)}");
        refusedRule("a{z:(1)1}");
        refusedRule("a{z:1(1)}");
        refusedRule("a{z:(1)(1)}");
        refusedRule("a{z:(1!)}");
        refusedRule("a{z:(1;1)}");
        refusedRule("a{z:$}");
        refusedRule("a{z:$a$b}");
        refusedRule("a{z:$a1}");
        refusedRule("a{z:1$a}");
        refusedRule("a{z:$ap}");
        refusedRule("a{z:(1)p}");
    }

    private static void numbers() {
        says("a number (1 to 3 digits, perhaps . and one digit) with p, e, % or nothing behind");
        for (String unit : new String[] {"", "p", "e", "%"}) {
            for (String number : new String[] {
                "0", "9", "00", "99", "000", "999", "0.0", "9.9", "00.0", "99.9", "000.0",
                "999.9"}) {
                String text = "a{z:" + number + unit + "}";
                due(text, () -> rule(new StyleDesk(), 0, text), 0);
            }
            for (String number : new String[] {
                "", "0000", "1000", "9999", "1000.0", "0000.1", "1.", "12.", "999.", ".", ".1",
                "1.00", "1.11", "999.99", "1..1", "1.1.1", "1,1", "1.a", "a", "0x1"}) {
                refusedRule("a{z:" + number + unit + "}");
            }
            for (String more : new String[] {"p", "e", "%", "P", ".", ".1"}) {
                if (!unit.isEmpty() || more.equals("P") || more.equals(".")) {
                    refusedRule("a{z:1" + unit + more + "}");
                }
            }
        }
    }

    private static void depths() {
        says("(Factors within factors, by - or parentheses, at most 6 deep.)");
        // Each row of six signs: a - where its bit is set, else parentheses.
        for (int bits = 0; bits < 64; bits++) {
            boolean minus = Integer.bitCount(bits) % 2 == 1;
            String six = nested(bits, 6, "1");
            String seven = nested(bits, 6, "-1");
            String sevenToo = nested(bits, 6, "(1)");
            due(six, () -> rule(new StyleDesk(), 0, "a{z:" + six + "}"), 0);
            due("value of " + six, () -> value("a{z:" + six + "}", Z),
                    minus ? -1f : 1f);
            refusedRule("a{z:" + seven + "}");
            refusedRule("a{z:" + sevenToo + "}");
            due("six beside six", () ->
                    rule(new StyleDesk(), 0, "a{z:" + six + "*" + six + "}"), 0);
            refusedRule("a{z:" + six + "*" + seven + "}");
            refusedRule("a{z:1+" + sevenToo + "}");
            refusedRule("a{z:" + nested(bits, 6, "") + "}");
            refusedRule("a{z:" + nested(bits, 6, "-") + "}");
            refusedRule("a{z:" + nested(bits, 6, "()") + "}");
        }
        due("six around a name", () -> rule(new StyleDesk(), 0, "a{z:-(-(-($a)))}"), 0);
        refusedRule("a{z:(-(-(-($a))))}");
        due("a sum at the bottom", () -> value("a{z:((((((1+2*3-4/2))))))}", Z), 5f);
        refusedRule("a{z:((((((1+2*(3)-4/2))))))}");
        due("all that waits at each depth", () ->
                value("a{z:1+2*(1+2*(1+2*(1+2*(1+2*(1+2*(1+2*3))))))}", Z), 511f);
        due("all that waits, from the right", () ->
                value("a{z:9-8/(9-8/(9-8/(9-8/(9-8/(9-8/(9-8/8))))))}", Z), 8f);
        due("named values do not count", () ->
                value("a{$a:((((((2))))));$b:------$a;$c:(((((($b))))));z:------$c}", Z), 2f);
    }

    private static String nested(int bits, int signs, String inner) {
        String text = inner;
        for (int i = 0; i < signs; i++) {
            text = (bits & 1 << i) != 0 ? "-" + text : "(" + text + ")";
        }
        return text;
    }

    private static void ruleTerms() {
        says("AT MOST 16 rules, numbered 0, 1, ..");
        StyleDesk d = tree();
        for (int i = 0; i < 16; i++) {
            int number = i;
            due("rule " + i, () -> rule(d, number % 3, "a{c:" + number + "}"), i);
            due("rules", () -> d.count(1), i + 1);
        }
        due("one too many", () -> rule(d, 0, "a{c:1}"), STATE);
        due("16 stay", () -> d.count(1), 16);
        due("the last of origin 2 wins", () -> d.value(0, C), 14f);
        due("the last counts", () -> d.weight(15, 0), 1);
        due("there is no 16", () -> d.weight(16, 0), ELEMENT);

        says("each has an ORIGIN (0, 1, 2)");
        for (int origin = 0; origin < 3; origin++) {
            StyleDesk e = tree();
            int asked = origin;
            due("origin " + origin, () -> rule(e, asked, "a{c:1}"), 0);
        }
        for (int origin : new int[] {-1, 3, 4, 255, 256, 65536, MIN, MAX}) {
            StyleDesk e = tree();
            due("origin " + origin, () -> rule(e, origin, "a{c:1}"), ARGUMENT);
            due("no rule", () -> e.count(1), 0);
        }
    }

    private static void winners() {
        says("IMPORTANT ones are before others; of important ones the lower origin, of others "
                + "the higher one; then the greater weight (the greatest of the rule's "
                + "selectors that match), then the later rule, then the later one in the rule");
        // One declaration: important or not, origin, weight 1 or 100 or 10000.
        String[] selectors = {"b", "q,.a,#y", "#x,b"};
        for (int one = 0; one < 18; one++) {
            for (int two = 0; two < 18; two++) {
                StyleDesk d = tree();
                rule(d, one / 3 % 3, selectors[one % 3] + "{c:1" + (one < 9 ? "" : "!") + "}");
                rule(d, two / 3 % 3, selectors[two % 3] + "{c:2" + (two < 9 ? "" : "!") + "}");
                int due = isBefore(one, two) ? 0 : 1;
                due("winner of " + one + " and " + two, () -> d.winner(1, C), due);
                due("value of " + one + " and " + two, () -> d.value(1, C), due + 1f);
            }
        }
        due("the later in a rule", () -> value("*{c:1;c:2;c:3;c:4}", C), 4f);
        due("the important first in a rule", () -> value("*{c:1!;c:2;c:3;c:4}", C), 1f);
        due("the later important one in a rule", () -> value("*{c:1!;c:2!;c:3;c:4}", C), 2f);
        due("a later inherit", () -> value("*{c:1;c:inherit}", C), 0f);
        due("the greatest that matches, not the greatest", () -> {
            StyleDesk d = tree();
            rule(d, 0, "b,#y.a{c:1}");
            rule(d, 0, "b{c:2}");
            return d.winner(1, C);
        }, 1);
    }

    private static boolean isBefore(int one, int two) {
        if (one / 9 != two / 9) {
            return one / 9 > two / 9;
        }
        int origin = one / 3 % 3;
        int other = two / 3 % 3;
        if (origin != other) {
            return one >= 9 ? origin < other : origin > other;
        }
        return one % 3 > two % 3;
    }

    // Terms: values

    private static void floats() {
        says("a number with one digit behind the point is (float) digits / 10f");
        for (int digits = 0; digits < 10000; digits += 4) {
            StyleDesk d = new StyleDesk();
            d.element(-1, 'a', 0, 0);
            rule(d, 0, "a{z:" + shown(digits) + ";c:" + shown(digits + 1) + ";w:"
                    + shown(digits + 2) + "p;m:" + shown(digits + 3) + "p}");
            due(shown(digits), () -> d.value(0, Z), tenths(digits));
            due(shown(digits + 1), () -> d.value(0, C), tenths(digits + 1));
            due(shown(digits + 2), () -> d.value(0, W), tenths(digits + 2));
            due(shown(digits + 3), () -> d.value(0, M), tenths(digits + 3));
        }

        says("VALUES are floats, all sums and products are of floats");
        due("a third", () -> value("*{z:1/3}", Z), 1f / 3f);
        due("a sum that is rounded", () -> value("*{z:999*999+0.1}", Z), 998001f + 1f / 10f);
        due("a sum that is lost", () -> value("*{z:999*999+0.1/9-999*999}", Z), 0f);
        due("rounded at each step", () ->
                value("*{z:999*999+0.1/9+0.1/9+0.1/9+0.1/9}", Z), 998001f);
        due("products from the left", () -> value("*{z:0.1*0.7*0.3}", Z),
                1f / 10f * (7f / 10f) * (3f / 10f));
        due("quotients from the left", () -> value("*{z:0.7/0.3/0.9}", Z),
                7f / 10f / (3f / 10f) / (9f / 10f));
        due("sums from the left", () -> value("*{z:0.1+0.2-0.3}", Z),
                1f / 10f + 2f / 10f - 3f / 10f);
        due("products before sums", () -> value("*{z:2+3*4-6/3}", Z), 12f);
        due("the least beside 0", () -> value("*{z:" + small(15) + "}", Z), divided(15));
        due("less than the least is 0", () -> value("*{z:" + small(16) + "}", Z), 0f);
        due("it is a sum", () -> how("*{z:" + small(16) + "}", Z), 2);
    }

    private static String shown(int digits) {
        return digits / 10 + "." + digits % 10;
    }

    private static float tenths(int digits) {
        return (float) digits / 10f;
    }

    /** 1 divided n times by 999, as a text and as a float. */
    private static String small(int n) {
        return "1" + "/999".repeat(n);
    }

    private static float divided(int n) {
        float f = 1f;
        for (int i = 0; i < n; i++) {
            f = f / 999f;
        }
        return f;
    }

    private static void firstValues() {
        says("At first c, w, h, m and z are 0, f is 16");
        StyleDesk d = row(true);
        for (int p = 0; p < 6; p++) {
            int property = p;
            float first = p == F ? 16f : 0f;
            due("the root's " + NAMES[p], () -> d.value(0, property), first);
            due("the deepest one's " + NAMES[p], () -> d.value(23, property), first);
        }

        says("f and c are INHERITED");
        StyleDesk e = row(true);
        rule(e, 0, "r{c:5;f:5p;w:5p;h:5p}");
        rule(e, 0, "r{m:5p;z:5}");
        for (int p = 0; p < 6; p++) {
            int property = p;
            boolean inherited = p == C || p == F;
            due("the root's " + NAMES[p], () -> e.value(0, property), 5f);
            due("the next one's " + NAMES[p], () -> e.value(1, property), inherited ? 5f : 0f);
            due("the deepest one's " + NAMES[p], () -> e.value(23, property), inherited ? 5f : 0f);
        }

        says("c and z want plain ones, the others lengths");
        for (int p = 0; p < 6; p++) {
            int property = p;
            boolean plain = p == C || p == Z;
            String right = "a{" + NAMES[p] + ":5" + (plain ? "" : "p") + "}";
            String other = "a{" + NAMES[p] + ":5" + (plain ? "p" : "") + "}";
            due(right, () -> how(right, property), 2);
            due(right, () -> value(right, property), 5f);
            due(other, () -> how(other, property), 3);
            due(other, () -> value(other, property), property == F ? 16f : 0f);
            String none = "a{" + NAMES[p] + ":0" + (plain ? "p" : "") + "}";
            due(none, () -> how(none, property), 3);
        }
    }

    private static void values() {
        says("none: as if it were unset; inherit: that of its parent (for the root: as "
                + "initial); initial: as at first");
        for (int p = 0; p < 6; p++) {
            int property = p;
            boolean plain = p == C || p == Z;
            float first = p == F ? 16f : 0f;
            String name = NAMES[p];
            String five = "a{" + name + ":5" + (plain ? "}" : "p}");
            boolean inherited = p == C || p == F;
            due(name + ", none", () -> below(five, null, property), inherited ? 5f : first);
            due(name + ", inherit", () -> below(five, "b{" + name + ":inherit}", property), 5f);
            due(name + ", initial", () -> below(five, "b{" + name + ":initial}", property), first);
            due(name + ", the root inherits", () ->
                    value("a{" + name + ":inherit}", property), first);
            due(name + ", the root's initial", () ->
                    value("a{" + name + ":initial}", property), first);
            due(name + ", nothing above", () ->
                    below(null, "b{" + name + ":inherit}", property), first);
        }

        says("a sum: what it gives, unless it is BROKEN, or not of the kind that is wanted: "
                + "then as unset. UNSET: for the inherited ones like inherit, for others like "
                + "initial");
        for (int p = 0; p < 6; p++) {
            int property = p;
            boolean plain = p == C || p == Z;
            float first = p == F ? 16f : 0f;
            String name = NAMES[p];
            String unit = plain ? "" : "p";
            String five = "a{" + name + ":5" + unit + "}";
            float unset = p == C || p == F ? 5f : first;
            due(name + ", a sum", () -> below(five, "b{" + name + ":7" + unit + "}", property), 7f);
            due(name + ", broken", () ->
                    below(five, "b{" + name + ":7" + unit + "/0}", property), unset);
            due(name + ", another kind", () ->
                    below(five, "b{" + name + ":7" + (plain ? "p" : "") + "}", property), unset);
            due(name + ", a broken root", () ->
                    value("a{" + name + ":7" + unit + "/0}", property), first);
            due(name + ", a root of another kind", () ->
                    value("a{" + name + ":7" + (plain ? "p" : "") + "}", property), first);
            due(name + ", the winner alone counts", () ->
                    below(five, "b{" + name + ":6" + unit + ";"
                    + name + ":7" + unit + "/0}", property), unset);
        }
    }

    private static void units() {
        says("with e a length, times f of the element (for f of its parent; 16 for the root)");
        due("the root's f", () -> value("a{f:2e}", F), 32f);
        due("the root's f is not twice", () -> value("a{f:2e;w:1e}", W), 32f);
        due("the root without f", () -> value("a{w:2e}", W), 32f);
        due("a broken f of the root", () -> value("a{f:2e/0;w:2e}", W), 32f);
        due("f of the parent", () -> below("a{f:10p}", "b{f:2e}", F), 20f);
        due("f of the element", () -> below("a{f:10p}", "b{f:30p;w:2e}", W), 60f);
        due("f that is inherited", () -> below("a{f:10p}", "b{w:2e}", W), 20f);
        due("f that is initial", () -> below("a{f:10p}", "b{f:initial;w:2e}", W), 32f);
        due("f 0", () -> below("a{f:0p}", "b{w:2e}", W), 0f);
        due("f below 0", () -> below("a{f:-2p}", "b{w:3e}", W), -6f);
        StyleDesk d = row(true);
        rule(d, 0, "*{f:0.5e}");
        due("halved 24 times", () -> d.value(23, F), 16f / (1 << 24));

        says("with % it is of the kind that the property wants, times the parent's value for "
                + "the same property (0 for the root) / 100f");
        for (int p = 0; p < 6; p++) {
            int property = p;
            boolean plain = p == C || p == Z;
            String name = NAMES[p];
            String seven = "a{" + name + ":7.7" + (plain ? "" : "p") + "}";
            float whole = 77f / 10f;
            due(name + " of the root", () -> value("a{" + name + ":50%}", property), 0f);
            due(name + " of the root is a sum", () -> how("a{" + name + ":50%}", property), 2);
            due(name + " of the parent", () ->
                    below(seven, "b{" + name + ":70%}", property), 70f * whole / 100f);
            due(name + " of tenths", () ->
                    below(seven, "b{" + name + ":33.3%}", property), 333f / 10f * whole / 100f);
            due(name + " of 0%", () -> below(seven, "b{" + name + ":0%}", property), 0f);
            due(name + " of the kind", () -> below(seven, "b{" + name + ":0%+1"
                    + (plain ? "" : "p") + "}", property), 1f);
            due(name + " of no other kind", () -> below(seven, "b{" + name + ":0%+1"
                    + (plain ? "p" : "") + "}", property), p == C || p == F ? whole : 0f);
        }
        due("of no other property", () -> below("a{w:8p}", "b{h:50%}", H), 0f);
    }

    private static void kinds() {
        says("+ and - are of two of the same kind; * of two of which one is plain, and of the "
                + "other's kind; / by a plain one. BROKEN: others");
        String[] terms = {"6", "3p"};
        for (int left = 0; left < 2; left++) {
            for (int right = 0; right < 2; right++) {
                float a = left == 0 ? 6f : 3f;
                float b = right == 0 ? 6f : 3f;
                boolean same = left == right;
                both(terms[left] + "+" + terms[right], same ? left : -1, a + b);
                both(terms[left] + "-" + terms[right], same ? left : -1, a - b);
                boolean one = left == 0 || right == 0;
                both(terms[left] + "*" + terms[right], one ? left + right : -1, a * b);
                both(terms[left] + "/" + terms[right], right == 0 ? left : -1, a / b);
            }
        }
        both("-6", 0, -6f);
        both("-3p", 1, -3f);
        both("3p+0", -1, 0f);
        both("0+3p", -1, 0f);
        both("3p*0", 1, 0f);
        both("0*3p", 1, 0f);
        both("0p*0p", -1, 0f);
        both("3p-3p", 1, 0f);
        both("(3p-3p)*6", 1, 0f);
        both("3p/3p*3p", -1, 0f);
        both("(1p+1)*0", -1, 0f);
        both("(1+1p)*0p", -1, 0f);
        both("-(1p+1)", -1, 0f);
        both("6+(1p*1p)", -1, 0f);
        both("(1p*1p)+6", -1, 0f);
        both("6*(1p/1p)", -1, 0f);
        both("$d", -1, 0f);
        both("6+0*$d", -1, 0f);
        both("3p+0*$d", -1, 0f);
    }

    /** A sum that is right for z, if its kind is 0, and for w, if it is 1. */
    private static void both(String sum, int kind, float due) {
        due("z:" + sum, () -> how("a{z:" + sum + "}", Z), kind == 0 ? 2 : 3);
        due("z:" + sum, () -> value("a{z:" + sum + "}", Z), kind == 0 ? due : 0f);
        due("w:" + sum, () -> how("a{w:" + sum + "}", W), kind == 1 ? 2 : 3);
        due("w:" + sum, () -> value("a{w:" + sum + "}", W), kind == 1 ? due : 0f);
    }

    private static void zeros() {
        says("/ by 0");
        String[] nothings = {"0", "0.0", "000", "-0", "(1-1)", "(0*9)", "(-1+1)", "0*1/0", "0%",
            "(0/5)", "(1-0.5-0.5)", "(" + small(16) + ")"};
        for (String nothing : nothings) {
            both("6/" + nothing, -1, 0f);
            both("3p/" + nothing, -1, 0f);
            both("0/" + nothing, -1, 0f);
            both("6/" + nothing + "*0", -1, 0f);
            both("-(6/" + nothing + ")", -1, 0f);
        }
        due("by a named 0", () -> how("a{$a:0;z:6/$a}", Z), 3);
        due("by 0 inside a named value", () -> how("a{$a:6/0;z:$a}", Z), 3);
        both("0/6", 0, 0f);
        both("0p/6", 1, 0f);
        both("6/0.1", 0, 6f / (1f / 10f));
        both("6/-0.1", 0, 6f / -(1f / 10f));
    }

    private static void tooMuch() {
        says("and whatever is more than 1000000 or less than -1000000");
        both("500*2*500*2", 0, 1000000f);
        both("500p*2*500*2", 1, 1000000f);
        both("-500*2*500*2", 0, -1000000f);
        both("-500p*2*500*2", 1, -1000000f);
        both("-(500*2*500*2)", 0, -1000000f);
        both("500*2*500*2+1", -1, 0f);
        both("500*2*500*2--1", -1, 0f);
        both("-500*2*500*2-1", -1, 0f);
        both("500p*2*500*2+1p", -1, 0f);
        both("-500p*2*500*2-1p", -1, 0f);
        both("500*2*500*2+0.1", -1, 0f);
        both("-500*2*500*2-0.1", -1, 0f);
        // The float next to 1000000 is 1/16 away: 1/32 is rounded down, 1/31 up.
        both("500*2*500*2+1/16", -1, 0f);
        both("500*2*500*2+1/31", -1, 0f);
        both("500*2*500*2+1/32", 0, 1000000f);
        both("-500*2*500*2-1/16", -1, 0f);
        both("-500*2*500*2-1/31", -1, 0f);
        both("-500*2*500*2-1/32", 0, -1000000f);
        both("500*2*500*2-0.1", 0, 1000000f - 1f / 10f);
        both("999*999*9", -1, 0f);
        both("-999*999*9", -1, 0f);
        both("999/0.1/0.1/0.1", 0, 999f / (1f / 10f) / (1f / 10f) / (1f / 10f));
        both("999/0.1/0.1/0.1/0.1", -1, 0f);
        both("-999/0.1/0.1/0.1/0.1", -1, 0f);
        both("1/(" + small(15) + ")", -1, 0f);
        both("-1/(" + small(15) + ")", -1, 0f);
        both("999.9*999.9*1", 0, tenths(9999) * tenths(9999));
    }

    private static void tooMuchInside() {
        says("whatever is more than 1000000 or less than -1000000");
        both("500*2*500*2+1-1", -1, 0f);
        both("-500*2*500*2-1+1", -1, 0f);
        both("999*999*9/999", -1, 0f);
        both("999*999*9*0", -1, 0f);
        both("1/(999*999*9)", -1, 0f);
        both("0*(999p*999*9)", -1, 0f);
        both("(500*2*500*2+500*2*500*2)/4", -1, 0f);
        due("inside a named value", () -> how("a{$a:999*999*9;z:$a/9}", Z), 3);
        due("by a named value", () -> how("a{$a:500*2*500*2;z:$a+1}", Z), 3);
        due("a named value just so", () -> value("a{$a:500*2*500*2;z:$a}", Z), 1000000f);
        String most = "a{f:500p*2*500*2;h:500p*2*500*2;z:500*2*500*2}";
        String least = "a{f:-500p*2*500*2;h:-500p*2*500*2;z:-500*2*500*2}";
        due("e just so", () -> below(most, "b{w:1e}", W), 1000000f);
        due("e beyond", () -> howBelow(most, "b{w:1.1e}", W), 3);
        due("e beyond and back", () -> howBelow(most, "b{w:1.1e/2}", W), 3);
        due("e beyond, for f", () -> howBelow(most, "b{f:2e}", F), 3);
        due("f beyond is as inherited", () -> below(most, "b{f:2e}", F), 1000000f);
        due("e least just so", () -> below(least, "b{w:1e}", W), -1000000f);
        due("e less than least", () -> howBelow(least, "b{w:1.1e}", W), 3);
        due("% just so", () -> below(most, "b{h:100%}", H), 1000000f);
        due("% beyond", () -> howBelow(most, "b{h:100.1%}", H), 3);
        due("% beyond and back", () -> howBelow(most, "b{h:200%/2}", H), 3);
        due("% plain just so", () -> below(most, "b{z:100%}", Z), 1000000f);
        due("% plain beyond", () -> howBelow(most, "b{z:101%}", Z), 3);
        due("% least just so", () -> below(least, "b{h:100%}", H), -1000000f);
        due("% less than least", () -> howBelow(least, "b{h:101%}", H), 3);
    }

    private static void named() {
        says("looked for at a PLACE (first the element itself): the winner for that name there; "
                + "if there is none, or it says inherit, at the place's parent, and so on");
        StyleDesk d = row(true);
        rule(d, 0, "r{$a:3}");
        rule(d, 0, "x{z:$a}");
        due("up to the root", () -> d.value(23, Z), 3f);
        rule(d, 0, "m{$a:inherit}");
        rule(d, 0, "x{$a:inherit}");
        due("up to the root through inherit", () -> d.value(23, Z), 3f);
        rule(d, 0, "m>m{$a:4}");
        due("at the parent", () -> d.value(23, Z), 4f);
        rule(d, 0, "x{$a:5}");
        due("at the element", () -> d.value(23, Z), 5f);
        rule(d, 0, "x{$a:inherit!;$a:6}");
        due("the winner says inherit", () -> d.value(23, Z), 4f);
        due("a child's is not seen", () -> value("a{z:$a}", Z), 0f);

        StyleDesk most = new StyleDesk();
        most.element(-1, 'r', 0, 0);
        for (int i = 1; i < 24; i++) {
            most.element(i - 1, 'd' - i % 4, 0, 0);
        }
        rule(most, 0, "r{$a:$b;$b:$c;$c:$d;$d:7}");
        rule(most, 0, "a{$a:$b;$b:$c;$c:$d;z:$a+1}");
        rule(most, 0, "b{$d:$a;$a:$b;$b:$c}");
        rule(most, 0, "c{$c:$d;$d:$a;$a:$b}");
        rule(most, 0, "d{$b:$c;$c:$d;$d:$a}");
        due("73 names that need one another", () -> most.value(23, Z), 8f);
        rule(most, 0, "r{$d:$a}");
        due("a circle behind 73", () -> most.how(23, Z), 3);

        says("without a winner, or for initial: BROKEN");
        for (String name : new String[] {"$a", "$b", "$c", "$d"}) {
            due("without " + name, () -> how("a{z:" + name + "}", Z), 3);
            due("without below " + name, () ->
                    howBelow("q{" + name + ":1}", "b{z:" + name + "}", Z), 3);
            due("a later one's " + name, () ->
                    howBelow("a{z:" + name + "}", "b{" + name + ":1}", Z), 0);
            due("inherit at the root, " + name, () ->
                    how("a{" + name + ":inherit;z:" + name + "}", Z), 3);
            due("inherit all the way, " + name, () -> howBelow("a{" + name + ":inherit}",
                    "b{" + name + ":inherit;z:" + name + "}", Z), 3);
            due("initial, " + name, () -> how("a{" + name + ":initial;z:" + name + "}", Z), 3);
            due("initial at the parent, " + name, () ->
                    howBelow("a{" + name + ":initial}", "b{z:" + name + "}", Z), 3);
            due("initial hides the parent's, " + name, () ->
                    howBelow("a{" + name + ":1}", "b{" + name + ":initial;z:" + name + "}", Z), 3);
            due("a broken one hides the parent's, " + name, () ->
                    howBelow("a{" + name + ":1}", "b{" + name + ":1/0;z:" + name + "}", Z), 3);
            due("it stands, " + name, () -> value("a{" + name + ":1;z:" + name + "}", Z), 1f);
        }
    }

    private static void namedPlaces() {
        says("Its sum is worked out for the same element and property, with the place where it "
                + "was found for the named values in it");
        due("the element's f", () -> below("a{f:2p;$a:3e}", "b{f:5p;w:$a}", W), 15f);
        due("the parent's f for f", () -> below("a{f:2p;$a:3e}", "b{f:$a}", F), 6f);
        due("the element's parent for %", () ->
                below("a{$a:50%;w:8p;h:9p}", "b{w:$a;h:1p}", W), 4f);
        due("the property's kind for %", () -> below("a{$a:50%;z:8;w:9p}", "b{z:$a}", Z), 4f);
        due("names of the place", () -> below("a{$a:$b;$b:2}", "b{$b:3;z:$a}", Z), 2f);
        due("names of the element", () -> below("a{$a:7;$b:2}", "b{$a:$b;$b:3;z:$a}", Z), 3f);
        due("names above the place", () ->
                below("a{$a:7;$b:2}", "b{$a:$b;$b:inherit;z:$a}", Z), 2f);
        due("no names below the place", () -> howBelow("a{$a:$b}", "b{$b:3;z:$a}", Z), 3);
        StyleDesk d = row(true);
        rule(d, 0, "*{z:$a}");
        rule(d, 0, "r{$a:1;$b:1}");
        rule(d, 0, "m{$b:$a+1}");
        rule(d, 0, "m>m{$a:$b}");
        due("one more at the first", () -> d.value(1, Z), 1f);
        due("itself at the next", () -> d.how(2, Z), 3);
        StyleDesk e = tree();
        rule(e, 0, "a{$a:1;$b:10}");
        rule(e, 0, "b{$a:$b+1;$b:inherit}");
        rule(e, 0, "i{$b:$a+1;$a:inherit;z:$b+$a}");
        due("to and fro, upwards", () -> e.value(5, Z), 23f);
    }

    private static void circles() {
        says("One that leads to itself at the same place is BROKEN");
        due("$a by $a", () -> how("a{$a:$a;z:$a}", Z), 3);
        due("$d by $d", () -> how("a{$d:1+$d;z:$d}", Z), 3);
        due("by two", () -> how("a{$a:$b;$b:$a;z:$a}", Z), 3);
        due("by three", () -> how("a{$a:$b;$b:$c;$c:$a;z:$c}", Z), 3);
        StyleDesk four = tree();
        rule(four, 0, "a{$a:$b;$b:$c;$c:$d;$d:$a}");
        rule(four, 0, "a{c:$a;z:$d;w:1p;h:0*$b}");
        due("by four, from $a", () -> four.how(0, C), 3);
        due("by four, from $d", () -> four.how(0, Z), 3);
        due("beside it", () -> four.value(0, W), 1f);
        due("times 0", () -> four.how(0, H), 3);
        due("into a circle", () -> how("a{$a:$b;$b:$c;$c:$b;z:$a}", Z), 3);
        due("a circle that is not the first", () -> how("a{$a:1;$b:$a+$b;z:$a+$b}", Z), 3);
        due("the same twice is no circle", () -> value("a{$a:2;$b:$a*$a;z:$a+$b*$b}", Z), 18f);
        due("the parent's own is another", () -> how("a{$a:1;$b:$a;$a:$b;z:$a}", Z), 3);
        due("itself at another place", () -> below("a{$a:1}", "b{$b:$a+1;z:$b}", Z), 2f);
        due("a circle at the parent", () -> howBelow("a{$a:$b;$b:$a}", "b{z:$a}", Z), 3);
        due("the circle undone", () -> below("a{$a:$b;$b:$a}", "b{$a:1;$b:$a+1;z:$b}", Z), 2f);
        due("undone below is not undone above", () ->
                howBelow("a{$a:$b;$b:$a}", "b{$b:1;z:$a}", Z), 3);
        StyleDesk d = tree();
        rule(d, 0, "a{$a:4}");
        rule(d, 0, "b{$b:$a+1}");
        rule(d, 0, "i{$a:$b+1;z:$a}");
        due("the same name farther up", () -> d.value(5, Z), 6f);
        due("f by a name with e", () -> value("a{$a:2e;f:$a;w:$a}", W), 64f);
    }

    // Promise 1

    private static void newObject() {
        says("No elements, no rules, an empty buffer");
        StyleDesk d = new StyleDesk();
        due("elements", () -> d.count(0), 0);
        due("rules", () -> d.count(1), 0);
        due("characters", () -> d.count(2), 0);
        due("no element 0", () -> d.winner(0, C), ELEMENT);
        due("no value", () -> d.value(0, C), ELEMENT);
        due("no how", () -> d.how(0, C), ELEMENT);
        due("no weight", () -> d.weight(0, 0), ELEMENT);
        due("no rule", () -> drop(d, 0), ELEMENT);
        due("no text for a rule", () -> d.rule(0), ARGUMENT);
        due("no element to match", () -> d.matches(0), ELEMENT);
        due("no element to match with a text", () -> matches(d, "a", 0), ELEMENT);
        due("the text is gone", () -> d.count(2), 0);
        due("a rule without elements", () -> rule(d, 0, "*{c:1}"), 0);
        due("no element for it", () -> d.weight(0, 0), ELEMENT);
        StyleDesk other = new StyleDesk();
        due("another object's elements", () -> other.count(0), 0);
        due("another object's rules", () -> other.count(1), 0);
        d.element(-1, 'a', 0, 0);
        due("the element is seen", () -> d.value(0, C), 1f);
    }

    // Promise 2

    private static void elementCalls() {
        says("An element more. Answers its number");
        StyleDesk d = new StyleDesk();
        for (int i = 0; i < 24; i++) {
            int number = i;
            due("element " + i, () -> d.element(number - 1, 'z', 'z', 255), i);
            due("elements", () -> d.count(0), i + 1);
        }

        says("Throws, changing nothing: IllegalArgumentException when parent is no element (for "
                + "the first one: not NONE)");
        Recipe first = StyleDesk::new;
        for (int parent : new int[] {0, 1, -2, 23, 24, 256, 65535, MIN, MAX}) {
            unchanged("first under " + parent, first, x -> x.element(parent, 'a', 0, 0), ARGUMENT);
        }
        Recipe e = () -> busy(3);
        for (int parent : new int[] {-1, -2, 3, 4, 23, 24, 32, 35, 256, 65536, MIN, MAX}) {
            unchanged("under " + parent, e, x -> x.element(parent, 'a', 0, 0), ARGUMENT);
        }
        due("under the last", () -> busy(3).element(2, 'a', 0, 0), 3);
    }

    private static void elementRefused() {
        says("tag not 'a' .. 'z', id not that or 0, or classes not 0 .. 255");
        int[] none = {-1, 1, 'a' - 1, 'z' + 1, 'A', 'Z', '0', 'a' + 128, 'a' + 256, 'z' + 256,
            'a' + 65536, 'a' - 65536, 256, 65536, MIN, MIN + 'a', MAX};
        Recipe first = StyleDesk::new;
        Recipe d = () -> busy(5);
        for (int letter : none) {
            unchanged("first tag " + letter, first, x -> x.element(-1, letter, 0, 0), ARGUMENT);
            unchanged("first id " + letter, first, x -> x.element(-1, 'a', letter, 0), ARGUMENT);
            unchanged("tag " + letter, d, x -> x.element(0, letter, 0, 0), ARGUMENT);
            unchanged("id " + letter, d, x -> x.element(0, 'a', letter, 0), ARGUMENT);
        }
        unchanged("tag 0", d, x -> x.element(0, 0, 0, 0), ARGUMENT);
        for (int classes : new int[] {-1, -255, -256, 256, 257, 511, 512, 65536, MIN, MAX}) {
            unchanged("first classes " + classes, first,
                    x -> x.element(-1, 'a', 0, classes), ARGUMENT);
            unchanged("classes " + classes, d, x -> x.element(0, 'a', 0, classes), ARGUMENT);
        }
        StyleDesk right = busy(5);
        due("tag a, id z, classes 255", () -> right.element(0, 'a', 'z', 255), 5);
        due("tag z, id a, classes 0", () -> right.element(0, 'z', 'a', 0), 6);
        due("id 0", () -> right.element(0, 'z', 0, 0), 7);

        says("IllegalStateException when there are 24");
        Recipe full = () -> busy(24);
        unchanged("a 25th under the root", full, x -> x.element(0, 'a', 0, 0), STATE);
        unchanged("a 25th under the last", full, x -> x.element(23, 'a', 0, 0), STATE);
        StyleDesk almost = busy(23);
        due("a 24th", () -> almost.element(0, 'a', 0, 0), 23);
        due("a 25th", () -> almost.element(0, 'a', 0, 0), STATE);
        due("and again", () -> almost.element(0, 'a', 0, 0), STATE);
    }

    // Promise 3

    private static void putCalls() {
        says("Appends the n lowest bytes of word (n is 1 .. 4), the highest of them first");
        for (int n = 1; n <= 4; n++) {
            StyleDesk d = tree();
            int many = n;
            // What stands above the n lowest bytes is no character and is not looked at.
            int above = n == 4 ? 0 : 0x80ff1f7f << 8 * n;
            int word = above | (n == 1 ? 'a' : n == 2 ? '.' << 8 | 'a'
                    : n == 3 ? 'b' << 16 | '.' << 8 | 'a' : '#' << 24 | 'x' << 16 | '.' << 8 | 'a');
            due(n + " bytes", () -> d.put(word, many), true);
            due(n + " counted", () -> d.count(2), n);
            due(n + " in order", () -> d.matches(n(many)), true);
        }
        StyleDesk two = tree();
        due("one", () -> two.put('b', 1), true);
        due("behind it", () -> two.put('>' << 8 | 'i', 2), true);
        due("one after the other", () -> two.matches(5), true);

        says("false, changing nothing, when n is not as said");
        StyleDesk d = tree();
        type(d, "b");
        for (int n : new int[] {0, 5, 6, 7, 8, 12, 16, 32, 64, 120, 256, 257, -1, -4, 65537, MIN,
            MIN + 1, MIN + 4, MAX, MAX - 1}) {
            due("n " + n, () -> d.put(0x61616161, n), false);
            due("n " + n + " changes nothing", () -> d.count(2), 1);
        }
        due("the text before stays", () -> d.matches(1), true);

        says("one of them is no character as said");
        StyleDesk e = tree();
        type(e, "b");
        for (int wrong : new int[] {0, 1, 10, 31, 127, 128, 160, 255}) {
            for (int n = 1; n <= 4; n++) {
                for (int place = 0; place < n; place++) {
                    int many = n;
                    int word = 0x61616161 & ~(255 << 8 * place) | wrong << 8 * place;
                    due("byte " + wrong + " at " + place + " of " + n, () ->
                            e.put(word, many), false);
                }
            }
            due("nothing changed by " + wrong, () -> e.count(2), 1);
        }
        due("the text before stays", () -> e.matches(1), true);
    }

    private static int n(int bytes) {
        return bytes == 1 ? 0 : bytes == 2 ? 7 : 1;
    }

    private static void putFull() {
        says("or it would have more than 120");
        for (int n = 1; n <= 4; n++) {
            for (int filled = 113; filled <= 120; filled++) {
                StyleDesk d = tree();
                String text = "*{z:1" + "+1".repeat(57) + "}";
                int at = filled;
                int many = n;
                type(d, text.substring(0, filled));
                int word = 0;
                for (int i = 0; i < n; i++) {
                    word = word << 8 | text.charAt(Math.min(filled + i, 119));
                }
                int asked = word;
                boolean room = filled + n <= 120;
                due(n + " behind " + filled, () -> d.put(asked, many), room);
                due("then there are", () -> d.count(2), room ? filled + n : filled);
                type(d, text.substring(room ? at + many : at));
                due("full", () -> d.count(2), 120);
                for (int more = 1; more <= 4; more++) {
                    int over = more;
                    due(more + " behind 120", () -> d.put(0x2b2b2b2b, over), false);
                }
                due("still full", () -> d.count(2), 120);
                due("the text is whole", () -> d.rule(0), 0);
                due("its sum", () -> d.value(7, Z), 58f);
                due("room again", () -> d.put(asked, many), true);
            }
        }
        StyleDesk d = tree();
        type(d, "*".repeat(120));
        for (int n : new int[] {0, 5, -1, MIN, MAX}) {
            due("n " + n + " when full", () -> d.put(0x61616161, n), false);
        }
        due("120", () -> d.count(2), 120);
    }

    // Promise 4

    private static void ruleCalls() {
        says("The buffer, which is empty afterwards always, becomes a rule with this origin. "
                + "Answers its number");
        StyleDesk d = tree();
        due("a rule", () -> rule(d, 0, "a{c:1}"), 0);
        due("empty by a rule", () -> d.count(2), 0);
        due("nothing is left of it", () -> d.rule(0), ARGUMENT);
        due("then a text from its start", () -> rule(d, 2, "a{c:2}"), 1);
        due("it stands", () -> d.value(0, C), 2f);
        String full = "a,b,b{c:" + "(1)+".repeat(27) + "12!}";
        due("length", () -> full.length(), 120);
        due("a full one", () -> rule(d, 2, full), 2);
        due("empty by it", () -> d.count(2), 0);
        due("its value", () -> d.value(0, C), 39f);
        Recipe r = () -> busy(8);
        for (int origin : new int[] {-1, 3, MIN, MAX}) {
            unchanged("origin " + origin, r, x -> rule(x, origin, "r{c:1}"), ARGUMENT);
        }
        unchanged("no text", r, x -> x.rule(0), ARGUMENT);
        unchanged("a wrong text", r, x -> rule(x, 0, "r{c:1"), ARGUMENT);
        unchanged("selectors", r, x -> rule(x, 0, "r"), ARGUMENT);
        unchanged("a wrong origin and text", r, x -> rule(x, 3, "r"), ARGUMENT);
        unchanged("full and wrong", r, x -> rule(x, 2, "r".repeat(120)), ARGUMENT);
        String open = full.replace("!}", "+1");
        unchanged("full, and nothing ends it", r, x -> rule(x, 2, open), ARGUMENT);
    }

    /** A text that ends too soon is not ended by what an earlier one left, nor read beyond 120. */
    private static void ruleLeftovers() {
        says("The buffer, which is empty afterwards always");
        String[] texts = {
            "a#x.a:f:n(1n+1)>*:x(b.c:n(2)):l{c:-1.5p*(2+$a)!;$b:inherit;f:initial!;w:1e/3%}",
            ":n(3n-2),b c+d~e{$d:12.5;z:inherit}", "*{h:initial}", ".a:x(#c){m:-((123.4e))}"};
        for (String text : texts) {
            for (int end = 0; end < text.length(); end++) {
                String cut = text.substring(0, end);
                StyleDesk d = tree();
                due("whole", () -> rule(d, 0, text), 0);
                due("cut to " + cut, () -> rule(d, 0, cut), ARGUMENT);
                due("full, cut to " + cut, () -> rule(d, 0, filled(cut)), ARGUMENT);
                due("whole again", () -> rule(d, 0, text), 1);
            }
            String selectors = text.substring(0, text.indexOf('{'));
            for (int end = 0; end <= selectors.length(); end++) {
                String cut = text.substring(0, end);
                StyleDesk d = tree();
                Object due = answer(() -> matches(tree(), cut, 1));
                due("whole", () -> matches(d, selectors + ",*", 1), true);
                due("cut to " + cut, () -> matches(d, cut, 1), due);
                due("full, cut to " + cut, () -> matches(d, filled(cut), 1), due);
                due("whole again", () -> matches(d, selectors + ",*", 1), true);
            }
        }
    }

    /** 120 characters: a selector that matches nothing in tree, a comma, and this at the end. */
    private static String filled(String text) {
        int length = 119 - text.length();
        StringBuilder s = new StringBuilder();
        while (length > 33) {
            int here = length == 34 ? 32 : 33;
            s.append(unmatched(here)).append('>');
            length -= here + 1;
        }
        s.append(unmatched(length)).append(',').append(text);
        if (s.length() != 120) {
            throw new AssertionError("not 120: " + s);
        }
        return s.toString();
    }

    /** A compound of 1 to 33 characters. */
    private static String unmatched(int length) {
        String[] parts = {"", "#q", ":n(1)", ":n(1n)", ":x(z#q)", ":n(1n-0)"};
        for (int i = 0; i < 1296; i++) {
            String text = parts[i % 6] + parts[i / 6 % 6] + parts[i / 36 % 6] + parts[i / 216];
            if (text.length() + 1 == length) {
                return "z" + text;
            }
        }
        if (length == 2 || length == 4) {
            return "#q#q".substring(0, length);
        }
        throw new AssertionError("no compound of " + length);
    }

    private static void ruleRefused() {
        says("IllegalStateException when there are 16; IllegalArgumentException when the origin "
                + "is not 0 .. 2, or the text no rule");
        Recipe almost = () -> rules(15);
        unchanged("15, a wrong origin", almost, x -> rule(x, 3, "r{c:1}"), ARGUMENT);
        unchanged("15, a wrong text", almost, x -> rule(x, 1, "r{c:1};"), ARGUMENT);
        unchanged("15, no text", almost, x -> x.rule(1), ARGUMENT);
        due("a 16th", () -> rule(rules(15), 1, "r{c:1}"), 15);
        Recipe full = () -> rules(16);
        unchanged("a 17th", full, x -> rule(x, 2, "r{c:9!}"), STATE);
        unchanged("a 17th of no text", full, x -> x.rule(1), STATE);
        unchanged("a 17th of a wrong text", full, x -> rule(x, 1, "r{"), STATE);
        unchanged("a 17th of a wrong origin", full, x -> rule(x, -1, "r{c:1}"), STATE);
        StyleDesk d = rules(16);
        d.drop(15);
        due("a 16th again", () -> rule(d, 1, "r{c:1}"), 15);
        d.drop(0);
        due("and once more", () -> rule(d, 1, "r{c:1}"), 15);
        due("17 are still too many", () -> rule(d, 2, "r{c:9!}"), STATE);
    }

    /** So many rules, the first of them those of busy. */
    private static StyleDesk rules(int many) {
        StyleDesk d = busy(6);
        for (int k = d.count(1); k < many; k++) {
            rule(d, 1, "b{h:3p}");
        }
        return d;
    }

    // Promise 5

    private static void dropCalls() {
        says("Rule k goes; later ones move up");
        for (int k = 0; k < 16; k++) {
            StyleDesk e = new StyleDesk();
            e.element(-1, 'a', 0, 1);
            List<Integer> left = new ArrayList<>();
            for (int i = 0; i < 16; i++) {
                // Each is told from the others by its weight.
                String excluded = ":x(z" + ".b".repeat(i / 4) + ")";
                rule(e, 1, "a" + ".a".repeat(i % 4) + excluded + "{c:" + i + "}");
                left.add(2 + 100 * (i % 4 + i / 4));
            }
            int gone = k;
            due("drop " + k, () -> drop(e, gone), "nothing");
            left.remove(k);
            due("rules", () -> e.count(1), 15);
            for (int i = 0; i < 15; i++) {
                int number = i;
                due("rule " + i + " without " + k, () -> e.weight(number, 0), left.get(i));
            }
            due("no rule 15", () -> e.weight(15, 0), ELEMENT);
            due("the winner", () -> e.winner(0, C), 14);
            due("its value", () -> e.value(0, C), k == 15 ? 14f : 15f);
            due("the next is the last", () -> rule(e, 1, "z{c:1}"), 15);
        }
        StyleDesk d = tree();
        for (int i = 0; i < 16; i++) {
            rule(d, 1, "a{c:" + i + "}");
        }
        for (int i = 15; i >= 0; i--) {
            int number = i;
            due("winner " + i, () -> d.winner(0, C), number);
            due("drop", () -> drop(d, number / 2), "nothing");
            due("rules", () -> d.count(1), number);
        }
        due("no winner", () -> d.winner(0, C), -1);

        says("NoSuchElementException when there is none");
        due("of 16, all gone", () -> drop(d, 0), ELEMENT);
        unchanged("an empty one", StyleDesk::new, x -> drop(x, 0), ELEMENT);
        Recipe four = () -> busy(6);
        for (int k : new int[] {-1, 4, 5, 15, 16, 32, 256, 65536, MIN, MAX}) {
            unchanged("drop " + k, four, x -> drop(x, k), ELEMENT);
        }
        StyleDesk e = busy(6);
        due("the last", () -> drop(e, 3), "nothing");
        due("the last again", () -> drop(e, 3), ELEMENT);
    }

    // Promise 6

    private static void matchesCalls() {
        says("The buffer, likewise, is selectors: whether one of them matches element e");
        Recipe d = () -> busy(8);
        unchanged("true", d, x -> matches(x, "r", 0), true);
        unchanged("false", d, x -> matches(x, "q", 0), false);
        unchanged("the first of three", d, x -> matches(x, "r,q,q", 0), true);
        unchanged("the second of three", d, x -> matches(x, "q,r,q", 0), true);
        unchanged("the third of three", d, x -> matches(x, "q,q,r", 0), true);
        unchanged("none of three", d, x -> matches(x, "q,q,q", 0), false);
        String full = ":n(1n-1):n(1n-1):n(1n-1):n(1n-1),:n(1n-1):n(1n-1):n(1n-1):n(1n-1) "
                + ":n(1n-1):n(1n-1):n(1n-1):n(1n-1)>*.a.a.a.a~a#a#b:n(1n)";
        due("length", () -> full.length(), 120);
        unchanged("a full one", d, x -> matches(x, full, 0), true);
        unchanged("a full one of no sort", d, x -> matches(x, full.replace(">", ">>"
                ).substring(0, 120), 0), ARGUMENT);

        says("NoSuchElementException when there is no such element");
        for (int e : new int[] {-1, 8, 9, 23, 24, 32, 40, 64, 256, 65536, MIN, MAX}) {
            unchanged("element " + e, d, x -> matches(x, "*", e), ELEMENT);
            unchanged("element " + e + ", no text", d, x -> x.matches(e), ELEMENT);
        }
        due("the last element", () -> matches(busy(8), "*", 7), true);
        unchanged("no element at all", StyleDesk::new, x -> matches(x, "*", 0), ELEMENT);

        says("IllegalArgumentException when the text is none");
        unchanged("nothing", d, x -> x.matches(0), ARGUMENT);
        unchanged("a rule", d, x -> matches(x, "r{c:1}", 0), ARGUMENT);
        unchanged("a brace", d, x -> matches(x, "r{", 0), ARGUMENT);
        unchanged("a space", d, x -> matches(x, " ", 0), ARGUMENT);
        unchanged("four", d, x -> matches(x, "r,r,r,r", 0), ARGUMENT);
        unchanged("a full one of no sort", d, x -> matches(x, "r".repeat(120), 0), ARGUMENT);
        unchanged("one that matches, one that is none", d, x -> matches(x, "r,?", 0), ARGUMENT);
        StyleDesk e = busy(8);
        due("none", () -> matches(e, "r,", 0), ARGUMENT);
        due("then a text from its start", () -> matches(e, "r", 0), true);
    }

    // Promise 7

    private static void weightCalls() {
        says("The greatest weight among selectors of rule k that match element e; NONE when "
                + "none does");
        StyleDesk d = tree();
        rule(d, 0, "*,b,#x{c:1}");
        rule(d, 0, "#y,.h,q{c:1}");
        due("0 is not NONE", () -> d.weight(0, 0), 0);
        due("the second", () -> d.weight(0, 2), 1);
        due("the third", () -> d.weight(0, 1), 10000);
        due("not the greatest, which does not match", () -> d.weight(1, 4), 100);
        due("none", () -> d.weight(1, 0), -1);
        rule(d, 0, "#x.a,#x,.a#x:f{c:1}");
        due("the last is the greatest", () -> d.weight(2, 1), 10200);
        rule(d, 0, "#x.a:f,#x,.a{c:1}");
        due("the first is the greatest", () -> d.weight(3, 1), 10200);

        says("NoSuchElementException when there is no such rule or element");
        Recipe e = () -> busy(8);
        for (int k : new int[] {-1, 4, 5, 15, 16, 32, 256, MIN, MAX}) {
            unchanged("rule " + k, e, x -> x.weight(k, 0), ELEMENT);
            unchanged("rule " + k + ", no element", e, x -> x.weight(k, 8), ELEMENT);
        }
        for (int n : new int[] {-1, 8, 23, 24, 32, 64, 256, MIN, MAX}) {
            unchanged("element " + n, e, x -> x.weight(0, n), ELEMENT);
        }
        due("the last rule", () -> busy(8).weight(3, 2), 10000);
        due("the last element", () -> busy(8).weight(0, 7), 100);
    }

    // Promise 8

    private static void winnerCalls() {
        says("The rule of the winner for element e and name n (a property 0 .. 5, or 6 .. 9 for "
                + "$a .. $d); NONE when there is none");
        StyleDesk d = tree();
        for (int n = 0; n < 10; n++) {
            int name = n;
            due("none for " + NAMES[n], () -> d.winner(0, name), -1);
        }
        for (int n = 0; n < 10; n++) {
            rule(d, 0, "a{" + NAMES[n] + ":inherit}");
        }
        for (int n = 0; n < 10; n++) {
            int name = n;
            due("the rule for " + NAMES[n], () -> d.winner(0, name), n);
            due("none below for " + NAMES[n], () -> d.winner(1, name), -1);
        }
        StyleDesk full = tree();
        for (int k = 0; k < 16; k++) {
            rule(full, 2, "a{$d:" + k + "}");
        }
        due("the last of 16", () -> full.winner(0, 9), 15);

        says("IllegalArgumentException for another name");
        Recipe e = () -> busy(8);
        for (int n : new int[] {-1, 10, 11, 16, 32, 256, 65536, MIN, MAX}) {
            unchanged("name " + n, e, x -> x.winner(0, n), ARGUMENT);
        }
        for (int n : new int[] {-1, 8, 23, 24, 32, 64, 256, MIN, MAX}) {
            unchanged("element " + n, e, x -> x.winner(n, 9), ELEMENT);
            unchanged("element " + n + ", no name", e, x -> x.winner(n, 10), ELEMENT);
        }
    }

    // Promise 9

    private static void valueCalls() {
        says("The value of a property (0 .. 5) of element e. Throws likewise");
        Recipe d = () -> busy(8);
        for (int p : new int[] {-1, 6, 7, 9, 10, 16, 256, 65536, MIN, MAX}) {
            unchanged("property " + p, d, x -> x.value(0, p), ARGUMENT);
        }
        for (int n : new int[] {-1, 8, 23, 24, 32, 64, 256, MIN, MAX}) {
            for (int p : new int[] {-1, 0, 5, 6, MIN, MAX}) {
                unchanged("element " + n + ", property " + p, d, x -> x.value(n, p), ELEMENT);
            }
        }
        StyleDesk empty = new StyleDesk();
        due("no element at all", () -> empty.value(0, 0), ELEMENT);
        due("nor property", () -> empty.value(0, 6), ELEMENT);
        StyleDesk full = row(true);
        rule(full, 0, "*{c:100%+1;z:100%+1;w:100%+1e;m:100%-1e}");
        due("c of the 24th", () -> full.value(23, C), 24f);
        due("z of the 24th", () -> full.value(23, Z), 24f);
        due("w of the 24th", () -> full.value(23, W), 384f);
        due("m of the 24th", () -> full.value(23, M), -384f);
    }

    // Promise 10

    private static void howCalls() {
        says("How it came: 0 there is no winner, 1 inherit or initial, 2 a sum, 3 a sum that is "
                + "BROKEN or not of the kind that is wanted");
        for (int p = 0; p < 6; p++) {
            int property = p;
            boolean plain = p == C || p == Z;
            String name = "a{" + NAMES[p] + ":";
            String right = plain ? "1" : "1p";
            due(name + " none", () -> how("a{$a:1}", property), 0);
            due(name + " inherit", () -> how(name + "inherit}", property), 1);
            due(name + " initial", () -> how(name + "initial}", property), 1);
            due(name + " a sum", () -> how(name + right + "}", property), 2);
            due(name + " broken", () -> how(name + right + "/0}", property), 3);
            due(name + " not of the kind", () ->
                    how(name + (plain ? "1p" : "1") + "}", property), 3);
            due(name + " inherited by none", () -> howBelow(name + right + "}", null, property), 0);
            due(name + " inherited from a broken one", () ->
                    howBelow(name + right + "/0}", "b" + name.substring(1) + "inherit}", property),
                    1);
        }

        says("Throws likewise");
        Recipe d = () -> busy(8);
        for (int p : new int[] {-1, 6, 7, 9, 10, 16, 256, 65536, MIN, MAX}) {
            unchanged("property " + p, d, x -> x.how(0, p), ARGUMENT);
        }
        for (int n : new int[] {-1, 8, 23, 24, 32, 64, 256, MIN, MAX}) {
            for (int p : new int[] {-1, 0, 5, 6, MIN, MAX}) {
                unchanged("element " + n + ", property " + p, d, x -> x.how(n, p), ELEMENT);
            }
        }
    }

    // Promise 11

    private static void countCalls() {
        says("How many elements (what 0), rules (1), characters in the buffer (2) there are; "
                + "NONE for another what");
        StyleDesk d = new StyleDesk();
        for (int i = 0; i < 24; i++) {
            due("elements", () -> d.count(0), i);
            d.element(i - 1, 'a', 0, 0);
        }
        for (int i = 0; i < 16; i++) {
            due("rules", () -> d.count(1), i);
            rule(d, 0, "a{c:1}");
        }
        for (int i = 0; i < 120; i++) {
            due("characters", () -> d.count(2), i);
            d.put('a', 1);
        }
        due("24", () -> d.count(0), 24);
        due("16", () -> d.count(1), 16);
        due("120", () -> d.count(2), 120);
        for (int what : new int[] {-1, -2, 3, 4, 8, 256, 257, 65536, MIN, MIN + 1, MAX}) {
            due("what " + what, () -> d.count(what), -1);
        }
        due("24 stay", () -> d.count(0), 24);
        due("16 stay", () -> d.count(1), 16);
        due("120 stay", () -> d.count(2), 120);
        due("no other call takes the buffer", () -> d.value(0, 0), 1f);
        due("nor drop", () -> drop(d, 3), "nothing");
        due("nor a refused element", () -> d.element(0, 'a', 0, 0), STATE);
        due("120 are there", () -> d.count(2), 120);
    }

    // What the tests ask with

    private static void says(String text) {
        if (askedOfSentence == 0) {
            wrong++;
            System.out.println("no test for: " + sentence);
        }
        sentence = text;
        askedOfSentence = 0;
        sentences += text.isEmpty() ? 0 : 1;
    }

    /** 0 a; its children 1 b#x.a, 2 b.a.b, 3 c.b, 4 b.h; 5 i under 1; 6 i, 7 i.a under 2. */
    private static StyleDesk tree() {
        StyleDesk d = new StyleDesk();
        d.element(-1, 'a', 0, 0);
        d.element(0, 'b', 'x', 1);
        d.element(0, 'b', 0, 3);
        d.element(0, 'c', 0, 2);
        d.element(0, 'b', 0, 128);
        d.element(1, 'i', 0, 0);
        d.element(2, 'i', 0, 0);
        d.element(2, 'i', 0, 1);
        return d;
    }

    /** 24 elements, each under the one before or all under the root: r, 22 times m, x. */
    private static StyleDesk row(boolean deep) {
        StyleDesk d = new StyleDesk();
        for (int i = 0; i < 24; i++) {
            d.element(deep || i == 0 ? i - 1 : 0, i == 0 ? 'r' : i == 23 ? 'x' : 'm', 0, 0);
        }
        return d;
    }

    /** So many elements, and rules by which the place of each in the tree can be seen. */
    private static StyleDesk busy(int elements) {
        StyleDesk d = new StyleDesk();
        for (int i = 0; i < elements; i++) {
            d.element(i == 0 ? -1 : i / 3, i == 0 ? 'r' : 'a' + i % 3, i == 2 ? 'x' : 0, i % 4);
        }
        rule(d, 0, ":l{c:1!;w:2e;$a:3}");
        rule(d, 1, "a+*,b~c,:n(2n){f:2e;h:50%+1p;z:$a}");
        rule(d, 2, "r *{w:50%+$b;$b:1p;m:1/0}");
        rule(d, 2, "#x,.a:f{c:inherit;f:initial;w:4p!}");
        return d;
    }

    /** What can be asked of a desk without a change, in so few calls that 512 hold it. */
    private static String state(StyleDesk d) {
        int elements = d.count(0);
        int rules = d.count(1);
        StringBuilder s = new StringBuilder();
        s.append(elements).append(' ').append(rules).append(' ').append(d.count(2));
        for (int e = 0; e < elements; e++) {
            for (int p = 0; p < 6; p++) {
                s.append(' ').append(d.value(e, p)).append(' ').append(d.how(e, p));
            }
            for (int k = 0; k < rules && k < 4; k++) {
                s.append(' ').append(d.weight(k, e));
            }
            s.append(' ').append(d.winner(e, e % 10));
        }
        return s.toString();
    }

    /** The call is made on one of two desks that are alike; they must be alike afterwards. */
    private static void unchanged(String what, Recipe recipe, Ask ask, Object due) {
        StyleDesk asked = recipe.make();
        StyleDesk other = recipe.make();
        due(what, () -> ask.of(asked), due);
        due(what + " changes nothing", () -> state(asked), state(other));
    }

    private static void accepted(String selectors) {
        StyleDesk d = tree();
        due("selectors " + selectors, () -> {
            matches(d, selectors, 1);
            return "taken";
        }, "taken");
        due("a rule of " + selectors, () -> rule(d, 0, selectors + "{c:1}"), 0);
    }

    private static void refused(String selectors) {
        StyleDesk d = tree();
        due("selectors " + selectors, () -> matches(d, selectors, 1), ARGUMENT);
        due("a rule of " + selectors, () -> rule(d, 0, selectors + "{c:1}"), ARGUMENT);
        due("no rule by " + selectors, () -> d.count(1), 0);
    }

    private static void refusedRule(String text) {
        StyleDesk d = tree();
        due("rule " + text, () -> rule(d, 0, text), ARGUMENT);
        due("no rule by " + text, () -> d.count(1), 0);
        due("nothing is left of " + text, () -> d.count(2), 0);
    }

    private static void matched(String selectors, String elements) {
        StyleDesk d = tree();
        for (int i = 0; i < 8; i++) {
            int e = i;
            boolean in = elements.indexOf('0' + i) >= 0;
            due(selectors + " matches " + i, () -> matches(d, selectors, e), in);
        }
    }

    private static void weighed(String selectors, int weight) {
        StyleDesk d = new StyleDesk();
        d.element(-1, 'q', 'q', 255);
        due(selectors, () -> rule(d, 1, selectors + "{c:1}"), 0);
        due("weight of " + selectors, () -> d.weight(0, 0), weight);
    }

    /** Of the root a, by one rule. */
    private static float value(String rule, int property) {
        StyleDesk d = tree();
        rule(d, 1, rule);
        return d.value(0, property);
    }

    private static int how(String rule, int property) {
        StyleDesk d = tree();
        rule(d, 1, rule);
        return d.how(0, property);
    }

    /** Of the root's child b, by a rule for the root and one for the child, or one of them. */
    private static float below(String above, String own, int property) {
        return pair(above, own).value(1, property);
    }

    private static int howBelow(String above, String own, int property) {
        return pair(above, own).how(1, property);
    }

    private static StyleDesk pair(String above, String own) {
        StyleDesk d = tree();
        if (above != null) {
            rule(d, 1, above);
        }
        if (own != null) {
            rule(d, 1, own);
        }
        return d;
    }

    private static void type(StyleDesk d, String text) {
        for (int i = 0; i < text.length(); i += 4) {
            int n = Math.min(4, text.length() - i);
            int word = 0;
            for (int j = 0; j < n; j++) {
                word = word << 8 | text.charAt(i + j);
            }
            if (!d.put(word, n)) {
                throw new AssertionError("not taken: " + text);
            }
        }
    }

    private static int rule(StyleDesk d, int origin, String text) {
        type(d, text);
        return d.rule(origin);
    }

    private static boolean matches(StyleDesk d, String text, int e) {
        type(d, text);
        return d.matches(e);
    }

    private static String drop(StyleDesk d, int k) {
        d.drop(k);
        return "nothing";
    }

    private static void due(String what, Call call, Object due) {
        Object got = answer(call);
        asked++;
        askedOfSentence++;
        boolean floats = got instanceof Float && due instanceof Float;
        boolean same = floats ? (float) (Float) got == (float) (Float) due : got.equals(due);
        if (!same) {
            wrong++;
            System.out.println("[" + sentence + "] " + what + ": " + got + ", due is " + due);
        }
    }

    private static Object answer(Call call) {
        try {
            return call.run();
        } catch (RuntimeException e) {
            return e.getClass().getSimpleName();
        }
    }
}
