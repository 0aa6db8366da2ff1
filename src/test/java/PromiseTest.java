/** The promises of the document one by one: ordinary inputs, edges, wrong inputs. */
public final class PromiseTest {
    private static final String ARGUMENT = "IllegalArgumentException";
    private static final String STATE = "IllegalStateException";
    private static final String ELEMENT = "NoSuchElementException";
    private static final int C = 0;
    private static final int F = 1;
    private static final int W = 2;
    private static final int H = 3;
    private static final int M = 4;
    private static final int Z = 5;
    private static int asked = 0;
    private static int wrong = 0;

    private interface Call {
        Object run();
    }

    public static void main(String[] args) {
        newObject();
        elements();
        putting();
        ruleAnswers();
        ruleTexts();
        cutTexts();
        sumTexts();
        dropping();
        matchAnswers();
        compounds();
        childNumbers();
        exclusions();
        joins();
        lastChildChanges();
        weights();
        winners();
        winnersByOrder();
        winnersChange();
        firstAndUnset();
        words();
        units();
        arithmetic();
        brokenSums();
        bounds();
        named();
        namedPlaces();
        namedCircles();
        namedForWhom();
        hows();
        wrongAsks();
        counts();
        longChains();
        System.out.println(asked + " answers asked, " + wrong + " wrong");
        if (wrong != 0) {
            System.exit(1);
        }
    }

    // Promise 1

    private static void newObject() {
        StyleDesk d = new StyleDesk();
        due("new: elements", () -> d.count(0), 0);
        due("new: rules", () -> d.count(1), 0);
        due("new: characters", () -> d.count(2), 0);
        due("new: no element", () -> d.value(0, 0), ELEMENT);
        due("new: no rule", () -> drop(d, 0), ELEMENT);
        StyleDesk other = new StyleDesk();
        other.element(-1, 'a', 0, 0);
        type(other, "a");
        due("new: objects are apart", () -> d.count(0) + d.count(2), 0);
    }

    // Promise 2

    private static void elements() {
        StyleDesk d = new StyleDesk();
        due("first under 0", () -> d.element(0, 'a', 0, 0), ARGUMENT);
        due("first under -2", () -> d.element(-2, 'a', 0, 0), ARGUMENT);
        due("tag below a", () -> d.element(-1, 'a' - 1, 0, 0), ARGUMENT);
        due("tag above z", () -> d.element(-1, 'z' + 1, 0, 0), ARGUMENT);
        due("tag A", () -> d.element(-1, 'A', 0, 0), ARGUMENT);
        due("tag 0", () -> d.element(-1, 0, 0, 0), ARGUMENT);
        due("tag beyond a char", () -> d.element(-1, 65536 + 'a', 0, 0), ARGUMENT);
        due("id below a", () -> d.element(-1, 'a', 'a' - 1, 0), ARGUMENT);
        due("id above z", () -> d.element(-1, 'a', 'z' + 1, 0), ARGUMENT);
        due("id -1", () -> d.element(-1, 'a', -1, 0), ARGUMENT);
        due("classes -1", () -> d.element(-1, 'a', 0, -1), ARGUMENT);
        due("classes 256", () -> d.element(-1, 'a', 0, 256), ARGUMENT);
        due("nothing changed", () -> d.count(0), 0);
        due("root", () -> d.element(-1, 'a', 'a', 255), 0);
        due("second root", () -> d.element(-1, 'a', 0, 0), ARGUMENT);
        due("parent not there", () -> d.element(1, 'a', 0, 0), ARGUMENT);
        due("parent least", () -> d.element(Integer.MIN_VALUE, 'a', 0, 0), ARGUMENT);
        due("child", () -> d.element(0, 'z', 'z', 0), 1);
        for (int i = 2; i < 24; i++) {
            int parent = i / 2;
            int number = i;
            due("element " + i, () -> d.element(parent, 'm', 0, 1), number);
        }
        due("a 25th", () -> d.element(0, 'a', 0, 0), STATE);
        due("a wrong 25th", () -> d.element(24, 'a', 0, 0), ARGUMENT);
        due("24 stay", () -> d.count(0), 24);
        due("the last can match", () -> matches(d, "m.a", 23), true);
    }

    // Promise 3

    private static void putting() {
        StyleDesk d = new StyleDesk();
        due("n 0", () -> d.put('a', 0), false);
        due("n 5", () -> d.put('a', 5), false);
        due("n -1", () -> d.put('a', -1), false);
        due("n 5 of good bytes", () -> d.put(0x61616161, 5), false);
        due("n 8 of good bytes", () -> d.put(0x61616161, 8), false);
        due("character 31", () -> d.put(31, 1), false);
        due("character 127", () -> d.put(127, 1), false);
        due("character 255", () -> d.put(-1, 1), false);
        due("a wrong high byte", () -> d.put(0x0a616161, 4), false);
        due("a wrong low byte", () -> d.put(0x61616100, 4), false);
        due("a wrong middle byte", () -> d.put(0x61806161, 4), false);
        due("a wrong byte, 2 bytes", () -> d.put('a', 2), false);
        due("nothing changed", () -> d.count(2), 0);
        due("space", () -> d.put(' ', 1), true);
        due("tilde", () -> d.put('~', 1), true);
        due("higher bytes are not looked at", () -> d.put(0x0a0a0a61, 1), true);
        due("two", () -> d.put(0x00006162, 2), true);
        due("three", () -> d.put(0xff616263, 3), true);
        due("four", () -> d.put(0x61626364, 4), true);
        due("characters", () -> d.count(2), 12);
        for (int i = 12; i < 117; i++) {
            d.put('a', 1);
        }
        due("117", () -> d.count(2), 117);
        due("four more are too many", () -> d.put(0x61616161, 4), false);
        due("117 stay", () -> d.count(2), 117);
        due("three more", () -> d.put(0x616161, 3), true);
        due("one more is too many", () -> d.put('a', 1), false);
        due("120", () -> d.count(2), 120);

        StyleDesk e = tree();
        due("put #xb", () -> e.put(('#' << 24) | ('x' << 16) | ('.' << 8) | 'a', 4), true);
        due("the highest byte comes first", () -> e.matches(1), true);
        due("put b", () -> e.put('b', 1), true);
        due("put +c", () -> e.put(('+' << 8) | 'c', 2), true);
        due("calls follow one another", () -> e.matches(3), true);
    }

    // Promise 4

    private static void ruleAnswers() {
        StyleDesk d = tree();
        due("a rule", () -> rule(d, 0, "a{c:1}"), 0);
        due("emptied", () -> d.count(2), 0);
        due("origin 1", () -> rule(d, 1, "b{c:1}"), 1);
        due("origin 2", () -> rule(d, 2, "c{c:1}"), 2);
        due("origin -1", () -> rule(d, -1, "a{c:1}"), ARGUMENT);
        due("emptied by a wrong origin", () -> d.count(2), 0);
        due("origin 3", () -> rule(d, 3, "a{c:1}"), ARGUMENT);
        due("no text", () -> d.rule(0), ARGUMENT);
        due("a wrong text", () -> rule(d, 0, "a{c:1"), ARGUMENT);
        due("emptied by a wrong text", () -> d.count(2), 0);
        due("wrong ones make no rule", () -> d.count(1), 3);
        for (int i = 3; i < 16; i++) {
            int number = i;
            due("rule " + i, () -> rule(d, 0, "a{c:1}"), number);
        }
        due("a 17th", () -> rule(d, 0, "a{c:1}"), STATE);
        due("emptied by the 17th", () -> d.count(2), 0);
        due("a 17th, wrong origin", () -> rule(d, 3, "a{c:1}"), STATE);
        due("a 17th, wrong text", () -> rule(d, 0, "a"), STATE);
        due("16 stay", () -> d.count(1), 16);
        d.drop(0);
        due("room again", () -> rule(d, 0, "a{c:1}"), 15);
    }

    private static void ruleTexts() {
        String[] good = {
            "a{c:1}", "*{f:1}", "#x{w:1}", ".h{h:1}", ":f{m:1}", ":l{z:1}", ":n(1){$a:1}",
            ":x(a){$d:1}", "a,b,c{c:1}", "a b>c+d{c:1}", "a~b{c:1}", "a{c:1;c:2;c:3;c:4}",
            "a{c:inherit}", "a{c:initial}", "a{c:inherit!}", "a{c:initial!;f:1}", "a{$b:inherit}",
            "a#x.a:f:l{c:1}", "*.a.b.c.d{c:1}", ".a.b.c.d{c:1}", "a{c:1!;c:2!}",
            "a:x(b.a.b.c.d):x(c):x(d):x(*){c:1}", "a b:x(c)>d:x(#e){c:1}"};
        for (String text : good) {
            StyleDesk d = new StyleDesk();
            due("rule " + text, () -> rule(d, 1, text), 0);
            for (int end = 0; end < text.length(); end++) {
                String cut = text.substring(0, end);
                due("cut to " + cut, () -> rule(d, 1, cut), ARGUMENT);
            }
        }
        String[] bad = {
            "{c:1}", "a", "a{", "a{}", "a{c}", "a{c:}", "a{c:1", "a{c:1}}", "a{c:1} ", " a{c:1}",
            "a {c:1}", "a{ c:1}", "a{c: 1}", "a{c:1 }", "a{c :1}", "a{c:1; f:1}", "a, b{c:1}",
            "a{c:1;}", "a{;c:1}", "a{c:1;c:2;c:3;c:4;c:5}", "a,b,c,d{c:1}", ",a{c:1}", "a,{c:1}",
            "a,,b{c:1}", "a b c d e{c:1}", "a>{c:1}", ">a{c:1}", "a> b{c:1}", "a  b{c:1}",
            "ab{c:1}", "**{c:1}", "a*{c:1}", "A{c:1}", "1{c:1}", "#{c:1}", "#A{c:1}", "#1{c:1}",
            ".{c:1}", ".i{c:1}", ".A{c:1}", ":{c:1}", ":a{c:1}", ":F{c:1}", "a.a.b.c.d.e{c:1}",
            ".a.b.c.d.e{c:1}", "a:x(a.a.b.c.d.e){c:1}", ":x(){c:1}", ":x{c:1}", ":x(a{c:1}",
            ":x(a b){c:1}", ":x(a,b){c:1}", ":x(:x(a)){c:1}", ":x(a:x(b)){c:1}", ":x(a)){c:1}",
            ":n{c:1}", ":n(){c:1}", ":n(n){c:1}", ":n(12){c:1}", ":n(-1){c:1}", ":n(+1){c:1}",
            ":n(1n+){c:1}", ":n(1n-){c:1}", ":n(1n1){c:1}", ":n(1n+12){c:1}", ":n(1+1){c:1}",
            ":n(1n+1{c:1}", ":n(1{c:1}", ":n(a){c:1}", ":n(1n*1){c:1}", "a{b:1}", "a{C:1}",
            "a{a:1}", "a{$:1}", "a{$e:1}", "a{$A:1}", "a{cc:1}", "a{c=1}", "a{c:1!!}", "a{c:!}",
            "a{c:inherit+1}", "a{c:-inherit}", "a{c:(inherit)}", "a{c:inherits}", "a{c:inheri}",
            "a{c:initia}", "a{c:Inherit}", "a{c:initial1}", "a{c:i}", "a{c:1,c:2}", "a{c:1}b{c:1}",
            "a{c:inheritinitial}", ":fa{c:1}", "a(c:1)", "!a{c:1}", "a~~b{c:1}", "a+ +b{c:1}"};
        for (String text : bad) {
            due("rule " + text, () -> rule(new StyleDesk(), 1, text), ARGUMENT);
        }
        String longest = "a{$a:1+1+1+1+1+1+1+1+1+1+1+1+1+1+1+1+1+1+1+1+1+1+1+1+1+1+1+1+1+1+1+1+1+1"
                + "+1+1+1+1+1+1+1+1+1+1+1+1+1+1+1;z:$a+$a}";
        StyleDesk d = tree();
        due("a rule of " + longest.length(), () -> rule(d, 0, longest), 0);
        due("its sum", () -> d.value(0, Z), 98f);
    }

    /** Texts that fill the buffer and end where more is looked for. */
    private static void cutTexts() {
        String[] tails = {
            "$", "$a+", "1.", "1*", "-", "(", "(1", "1", "1p", "1;", "1;c", "1;c:", "1;c:inheri",
            "1;c:initia", "1;c:i", "1;c:inherit", "1;c:initial", "1;c:1!", "1;$", "1;c:$"};
        for (String tail : tails) {
            StringBuilder text = new StringBuilder("a{z:");
            while (text.length() + tail.length() < 120) {
                text.append(text.length() % 2 == 0 ? '1' : '+');
            }
            int last = text.length() - 1;
            if (text.charAt(last) == '1') {
                text.setCharAt(last - 1, '1');
                text.setCharAt(last, '+');
            }
            due("length with " + tail, () -> text.length() + tail.length(), 120);
            due("full, cut at " + tail, () -> rule(tree(), 0, text + tail), ARGUMENT);
        }
        String numbers = ":n(1n+1):n(1n+1):n(1n+1):n(1n+1)";
        String front = "a" + numbers + ">a" + numbers + ">a" + numbers + ">";
        String[] ends = {
            "a:n(1n+1):n(1n+1)#", "a:n(1n+1):n(1n+1).", "a:n(1n+1):n(1n+1):",
            ":n(1n+1):n(1n+1):n", ":n(1n+1):n(1n+1):x", "a:n(1n+1).a.a.a:x(",
            "a:n(1n+1).a.a:x(a)", "a:n(1n+1).a.a:x(.a", "a:n(1n+1).a.a.a:n(", ":n(1n+1).a.a.a:n(1",
            "a:n(1n+1).a.a:n(1n", "a:n(1n+1).a.a:n(n+", "a:n(1n+1).a:n(1n+1", "a:n(1n+1).a:n(1n-1",
            "a:n(1n+1).a.a.a.a,", "a:n(1n+1).a.a.a.a>", "a:n(1n+1).a.a.a.a{"};
        for (String end : ends) {
            boolean good = end.endsWith(":x(a)");
            due("length of " + end, () -> front.length() + end.length(), 120);
            due("full, cut at " + end, () -> matches(tree(), front + end, 0),
                    good ? (Object) false : ARGUMENT);
            due("no rule, cut at " + end, () -> rule(tree(), 0, front + end), ARGUMENT);
        }
    }

    private static void sumTexts() {
        String[] good = {
            "0", "9", "99", "999", "0.1", "999.9", "000", "1p", "1e", "1%", "1.5p", "1.5e", "1.5%",
            "-1", "--1", "------1", "1--1", "1+-1", "1*-1", "1/-1", "(1)", "((((((1))))))",
            "-(-(-(1)))", "(-1)", "$a", "$b+$c*$d", "-$a", "1+2-3*4/5", "(1+2)*(3-4)",
            "((((((1+1))))))*((((((1+1))))))", "1p+1e-1%*2/3"};
        for (String text : good) {
            due("sum " + text, () -> rule(new StyleDesk(), 1, "a{w:" + text + "}"), 0);
        }
        String[] bad = {
            "", "+1", "1+", "1-", "1*", "1/", "*1", "/1", "-", "1++1", "1**1", "1/*1", "1000",
            "1000p", "1.", "1.p", ".5", "1.55", "1..5", "1.5.5", "1pp", "1ep", "1P", "p", "%",
            "(", ")", "()", "(1", "1)", "((1)", "(1))", "(1)2", "1(2)", "1 +1", "1+ 1", "$",
            "$e", "$1", "$aa", "$$a", "$ap", "a", "1a", "-------1", "(((((((1)))))))",
            "-(-(-(-1)))" + "-", "-(-(-(-(1))))-(", "-(-(-(-1)+(-1)+(1)+((1))))", "1;", "1!1",
            "1e5", "1,5", "x", "- 1", "-(((((-1)))))", "((((((()))))))", "-------", "-------+1"};
        for (String text : bad) {
            due("sum " + text, () -> rule(new StyleDesk(), 1, "a{w:" + text + "}"), ARGUMENT);
        }
        due("six in a sum", () -> rule(new StyleDesk(), 1, "a{w:1+-((((-1))))}"), 0);
        due("seven in a product", () -> rule(new StyleDesk(), 1, "a{w:2*-(((((-1)))))}"), ARGUMENT);
    }

    // Promise 5

    private static void dropping() {
        StyleDesk d = tree();
        rule(d, 0, "a{c:1}");
        rule(d, 0, "a{c:2}");
        rule(d, 0, "b{c:3}");
        due("drop -1", () -> drop(d, -1), ELEMENT);
        due("drop 3", () -> drop(d, 3), ELEMENT);
        due("three stay", () -> d.count(1), 3);
        due("the later wins", () -> d.value(0, C), 2f);
        due("drop 1", () -> drop(d, 1), "nothing");
        due("two are left", () -> d.count(1), 2);
        due("the earlier wins", () -> d.value(0, C), 1f);
        due("the last moved up", () -> d.weight(1, 1), 1);
        due("the winner moved up", () -> d.winner(1, C), 1);
        due("the number is gone", () -> d.weight(2, 1), ELEMENT);
        due("drop 0", () -> drop(d, 0), "nothing");
        due("drop 0 again", () -> drop(d, 0), "nothing");
        due("none is left", () -> drop(d, 0), ELEMENT);
        due("no winner", () -> d.winner(1, C), -1);
        due("unset", () -> d.value(1, C), 0f);
        rule(d, 0, "a{c:5}");
        type(d, "b");
        drop(d, 0);
        due("the buffer stays", () -> d.count(2), 1);
    }

    // Promise 6

    private static void matchAnswers() {
        StyleDesk d = tree();
        due("no such element", () -> matches(d, "a", 9), ELEMENT);
        due("emptied", () -> d.count(2), 0);
        due("element -1", () -> matches(d, "a", -1), ELEMENT);
        due("no such element, no selectors", () -> matches(d, "?", 9), ELEMENT);
        due("no text", () -> d.matches(0), ARGUMENT);
        due("a match", () -> matches(d, "a", 0), true);
        due("emptied by a match", () -> d.count(2), 0);
        due("no match", () -> matches(d, "b", 0), false);
        due("emptied by none", () -> d.count(2), 0);
        due("a wrong text", () -> matches(d, "a,", 0), ARGUMENT);
        due("emptied by a wrong text", () -> d.count(2), 0);
        due("a rule is no selectors", () -> matches(d, "a{c:1}", 0), ARGUMENT);
        due("a brace", () -> matches(d, "a{", 0), ARGUMENT);
        due("a space behind", () -> matches(d, "a ", 0), ARGUMENT);
        due("first of a list", () -> matches(d, "a,q,r", 0), true);
        due("last of a list", () -> matches(d, "q,r,a", 0), true);
        due("none of a list", () -> matches(d, "q,r,b", 0), false);
        due("four", () -> matches(d, "a,a,a,a", 0), ARGUMENT);
    }

    /** 0 a; its children 1 b#x.a, 2 b.a.b, 3 c.b, 4 b.h; 5 i under 1; 6 i, 7 i.a under 2. */
    private static StyleDesk tree() {
        StyleDesk d = new StyleDesk();
        d.element(-1, 'a', 0, 0);
        d.element(0, 'b', 'x', 1);
        d.element(0, 'b', 0, 3);
        d.element(0, 'c', 0, 2);
        d.element(0, 'b', 0, 128);
        d.element(1, 'i', 0, 0);
        d.element(2, 'i', 0, 0);
        d.element(2, 'i', 0, 1);
        return d;
    }

    private static void compounds() {
        matched("*", "01234567");
        matched("b", "124");
        matched("z", "");
        matched("#x", "1");
        matched("#y", "");
        matched("#a", "");
        matched(".a", "127");
        matched(".b", "23");
        matched(".h", "4");
        matched(".c", "");
        matched(".a.b", "2");
        matched("b.a", "12");
        matched("i.a", "7");
        matched("b#x.a:f", "1");
        matched("b#x.b", "");
        matched(":f", "0156");
        matched(":l", "0457");
        matched(":f:l", "05");
        matched("i:f", "56");
        matched("*:l.h", "4");
        matched(".a.a.a.a", "127");
    }

    private static void childNumbers() {
        matched(":n(0)", "");
        matched(":n(1)", "0156");
        matched(":n(2)", "27");
        matched(":n(4)", "4");
        matched(":n(5)", "");
        matched(":n(0n)", "");
        matched(":n(1n)", "01234567");
        matched(":n(2n)", "247");
        matched(":n(3n)", "3");
        matched(":n(2n+0)", "247");
        matched(":n(2n-0)", "247");
        matched(":n(2n+1)", "01356");
        matched(":n(2n+2)", "247");
        matched(":n(2n+3)", "3");
        matched(":n(2n+4)", "4");
        matched(":n(1n+3)", "34");
        matched(":n(0n+3)", "3");
        matched(":n(0n-3)", "");
        matched(":n(0n+0)", "");
        matched(":n(2n-1)", "01356");
        matched(":n(3n-1)", "27");
        matched(":n(3n-2)", "01456");
        matched(":n(3n-9)", "3");
        matched(":n(9n-8)", "0156");
        matched(":n(3n+1)", "01456");
        matched(":n(5n+4)", "4");
        StyleDesk d = new StyleDesk();
        d.element(-1, 'a', 0, 0);
        for (int i = 1; i < 24; i++) {
            d.element(0, 'b', 0, 0);
        }
        for (int i = 1; i < 24; i++) {
            int number = i;
            due("7n+9 of " + i, () -> matches(d, ":n(7n+9)", number), i == 9 || i == 16 || i == 23);
            due("8n-7 of " + i, () -> matches(d, ":n(8n-7)", number), i == 1 || i == 9 || i == 17);
        }
    }

    private static void exclusions() {
        matched(":x(b)", "03567");
        matched(":x(*)", "");
        matched("*:x(.a)", "03456");
        matched("b:x(.a)", "4");
        matched("b:x(.a):x(.h)", "");
        matched("b:x(.a.b)", "14");
        matched("b:x(i.a)", "124");
        matched(":x(#x)", "0234567");
        matched(":x(:f):x(:l)", "23");
        matched(":x(:n(2n))", "01356");
        matched(":x(b):x(i):x(c):x(d)", "0");
        matched(":x(b).a", "7");
        matched(":x(b.a.a.a.a).a:f", "");
    }

    private static void joins() {
        matched("a b", "124");
        matched("a i", "567");
        matched("a>i", "");
        matched("a>b", "124");
        matched("b i", "567");
        matched("b>i", "567");
        matched("i b", "");
        matched("a a", "");
        matched("b+b", "2");
        matched("b+c", "3");
        matched("c+b", "4");
        matched("b~b", "24");
        matched("b~c", "3");
        matched("c~b", "4");
        matched("#x~*", "234");
        matched("#x+*", "2");
        matched("a+a", "");
        matched("a+b", "");
        matched("a~b", "");
        matched("a~a", "");
        matched("* *", "1234567");
        matched("*>*>*", "567");
        matched("* * *", "567");
        matched("* * * *", "");
        matched("a>b+b>i", "67");
        matched("a>b+b>.a", "7");
        matched("#x~b i", "67");
        matched("b~c+b", "4");
        matched("i~i", "7");
        matched("i+i", "7");
        matched("b,i+i", "1247");

        StyleDesk deep = new StyleDesk();
        deep.element(-1, 'a', 0, 0);
        deep.element(0, 'b', 0, 1);
        deep.element(1, 'b', 0, 0);
        deep.element(2, 'c', 0, 0);
        due("not the nearest ancestor only", () -> matches(deep, "a>b c", 3), true);
        due("the farther ancestor", () -> matches(deep, ".a c", 3), true);
        due("through the nearer one", () -> matches(deep, ".a>b>c", 3), true);
        due("not through two at once", () -> matches(deep, ".a>c", 3), false);
        due("ancestors in order", () -> matches(deep, "b a c", 3), false);

        StyleDesk wide = new StyleDesk();
        wide.element(-1, 'r', 0, 0);
        wide.element(0, 'a', 0, 0);
        wide.element(0, 'b', 0, 0);
        wide.element(0, 'q', 0, 0);
        wide.element(0, 'b', 0, 0);
        wide.element(0, 'c', 0, 0);
        due("an earlier sibling than the last", () -> matches(wide, "a+b~c", 5), true);
        due("not any before", () -> matches(wide, "a+c", 5), false);
        due("the one just before", () -> matches(wide, "b+c", 5), true);
        due("siblings of another parent", () -> matches(wide, "r~c", 5), false);
    }

    private static void lastChildChanges() {
        StyleDesk d = tree();
        rule(d, 0, "b:l{c:3}");
        due("last so far", () -> d.value(4, C), 3f);
        due("weight of the last", () -> d.weight(0, 4), 101);
        d.element(0, 'b', 0, 0);
        due("last no more", () -> d.value(4, C), 0f);
        due("no weight", () -> d.weight(0, 4), -1);
        due("no winner", () -> d.winner(4, C), -1);
        due("the new last", () -> d.value(8, C), 3f);
        due("by a text", () -> matches(d, ":l", 8), true);
        due("not the old one", () -> matches(d, ":l", 4), false);
    }

    // Promise 7

    private static void weights() {
        weighed("*", 0, 0);
        weighed("a", 0, 1);
        weighed("b", 0, -1);
        weighed("#x", 1, 10000);
        weighed(".a", 1, 100);
        weighed(":f", 1, 100);
        weighed(":l", 4, 100);
        weighed(":n(2n+1)", 1, 100);
        weighed("b#x.a:f", 1, 10201);
        weighed("#x#x.a.a", 1, 20200);
        weighed(":x(c)", 1, 1);
        weighed(":x(*)", 1, -1);
        weighed(":x(c.c)", 1, 101);
        weighed("b:x(#y.a:l)", 1, 10201);
        weighed("b:x(c):x(d)", 1, 3);
        weighed("a b", 1, 2);
        weighed("a>#x>i", 5, 10002);
        weighed("*>*>*", 5, 0);
        weighed("#x+.b~c+b", 4, 10102);
        weighed("b,.a,#x", 1, 10000);
        weighed("#x,.a,b", 1, 10000);
        weighed("b,.a,#x", 2, 100);
        weighed("b,.a,#x", 4, 1);
        weighed("b,.a,#x", 0, -1);
        StyleDesk d = tree();
        rule(d, 0, "a{c:1}");
        due("no such rule", () -> d.weight(1, 0), ELEMENT);
        due("rule -1", () -> d.weight(-1, 0), ELEMENT);
        due("no such element", () -> d.weight(0, 8), ELEMENT);
        due("element -1", () -> d.weight(0, -1), ELEMENT);
    }

    // Promise 8

    private static void winners() {
        StyleDesk d = tree();
        due("no rules", () -> d.winner(0, C), -1);
        rule(d, 1, "a{c:1;$a:1;$d:1}");
        due("one rule", () -> d.winner(0, C), 0);
        due("$a", () -> d.winner(0, 6), 0);
        due("$b", () -> d.winner(0, 7), -1);
        due("$d", () -> d.winner(0, 9), 0);
        due("another property", () -> d.winner(0, F), -1);
        due("an element that it does not match", () -> d.winner(1, C), -1);
        due("no such element", () -> d.winner(8, C), ELEMENT);
        due("element -1", () -> d.winner(-1, C), ELEMENT);
        due("name 10", () -> d.winner(0, 10), ARGUMENT);
        due("name -1", () -> d.winner(0, -1), ARGUMENT);
        due("no such element, no name", () -> d.winner(8, 10), ELEMENT);
        StyleDesk all = tree();
        rule(all, 0, "*{c:1;f:1p;w:1p;h:1p}");
        rule(all, 0, "*{m:1p;z:1;$a:1;$b:1}");
        rule(all, 0, "*{$c:1;$d:1}");
        for (int n = 0; n < 10; n++) {
            int name = n;
            due("name " + n, () -> all.winner(3, name), n / 4);
        }
    }

    private static void winnersByOrder() {
        won(1, "1 b{c:1}", "1 b{c:2}");
        won(0, "1 b.a{c:1}", "1 b{c:2}");
        won(1, "1 b{c:1}", "1 b.a{c:2}");
        won(1, "1 b.a{c:1}", "2 b{c:2}");
        won(0, "2 b{c:1}", "1 b.a{c:2}");
        won(1, "0 #x{c:1}", "1 *{c:2}");
        won(0, "0 *{c:1!}", "2 #x{c:2}");
        won(1, "2 #x{c:1}", "0 *{c:2!}");
        won(0, "0 *{c:1!}", "2 #x{c:2!}");
        won(1, "2 #x{c:1!}", "0 *{c:2!}");
        won(1, "1 #x{c:1!}", "0 *{c:2!}");
        won(0, "1 *{c:1!}", "2 #x{c:2!}");
        won(1, "0 b{c:1!}", "0 b{c:2!}");
        won(0, "0 b.a{c:1!}", "0 b{c:2!}");
        won(1, "0 b{c:1}", "0 q,b,#x{c:2}");
        won(0, "0 b.a{c:1}", "0 b,#y{c:2}");
        won(2, "0 b{c:1}", "0 b{c:2}", "0 b{c:3}");
        won(1, "0 b{c:1}", "0 b{c:2!}", "0 b{c:3}");
        won(0, "2 b{c:1}", "2 b{w:1p!}", "1 b{c:3}");
        won(2, "2 b{c:1}", "2 b{c:1}", "2 b{c:inherit}");
        won(1, "2 b{c:1}", "2 b{c:inherit!}", "2 b{c:2}");

        StyleDesk d = tree();
        rule(d, 1, "b{c:1;c:2;c:3}");
        due("the later in a rule", () -> d.value(1, C), 3f);
        rule(d, 1, "b{c:4;c:5!;c:6}");
        due("the important in a rule", () -> d.value(1, C), 5f);
        rule(d, 1, "b{c:7!;c:8!;c:9}");
        due("the later important in a rule", () -> d.value(1, C), 8f);
        due("names are apart", () -> d.winner(1, Z), -1);
    }

    private static void winnersChange() {
        StyleDesk d = tree();
        rule(d, 1, "b{c:1}");
        due("alone", () -> d.winner(1, C), 0);
        rule(d, 1, "b{c:2}");
        due("a later one", () -> d.winner(1, C), 1);
        rule(d, 0, "b{c:3}");
        due("a lower origin", () -> d.winner(1, C), 1);
        d.drop(1);
        due("dropped", () -> d.winner(1, C), 0);
        due("its value", () -> d.value(1, C), 1f);
        d.element(1, 'b', 0, 0);
        due("a new element", () -> d.winner(8, C), 0);
        due("a new element's value", () -> d.value(8, C), 1f);
    }

    // Promise 9

    private static void firstAndUnset() {
        StyleDesk d = tree();
        for (int property = 0; property < 6; property++) {
            int p = property;
            due("at first " + p, () -> d.value(0, p), p == F ? 16f : 0f);
            due("at first below " + p, () -> d.value(5, p), p == F ? 16f : 0f);
        }
        rule(d, 0, "a{c:2;f:20p;w:3p;h:4p}");
        rule(d, 0, "a{m:5p;z:6}");
        due("c is inherited", () -> d.value(5, C), 2f);
        due("f is inherited", () -> d.value(5, F), 20f);
        due("w is not", () -> d.value(5, W), 0f);
        due("h is not", () -> d.value(5, H), 0f);
        due("m is not", () -> d.value(5, M), 0f);
        due("z is not", () -> d.value(5, Z), 0f);
        due("w of the root", () -> d.value(0, W), 3f);
        due("h of the root", () -> d.value(0, H), 4f);
        due("m of the root", () -> d.value(0, M), 5f);
        due("z of the root", () -> d.value(0, Z), 6f);
    }

    private static void words() {
        StyleDesk d = tree();
        rule(d, 0, "*{c:inherit;f:inherit;w:inherit;z:inherit}");
        due("c inherits as at first", () -> d.value(0, C), 0f);
        due("f inherits as at first", () -> d.value(0, F), 16f);
        due("w inherits as at first", () -> d.value(5, W), 0f);
        rule(d, 0, "a{c:2;f:20p;w:3p;z:6}");
        due("c inherits", () -> d.value(5, C), 2f);
        due("f inherits", () -> d.value(5, F), 20f);
        due("w inherits", () -> d.value(5, W), 3f);
        due("z inherits", () -> d.value(5, Z), 6f);
        rule(d, 0, "b{c:initial;f:initial;w:initial;z:initial}");
        due("c initial", () -> d.value(1, C), 0f);
        due("f initial", () -> d.value(1, F), 16f);
        due("w initial", () -> d.value(1, W), 0f);
        due("z initial", () -> d.value(1, Z), 0f);
        due("inherited from initial", () -> d.value(5, F), 16f);
    }

    private static void units() {
        valued("c:7", 0, C, 7f);
        valued("w:7p", 0, W, 7f);
        valued("w:12.5p", 0, W, 12.5f);
        valued("w:0.1p", 0, W, 1f / 10f);
        valued("w:123.4p", 0, W, 1234f / 10f);
        valued("z:999.9", 0, Z, 9999f / 10f);
        valued("w:2e", 0, W, 32f);
        valued("w:1.5e", 1, W, 24f);
        valued("f:2e", 0, F, 32f);
        valued("f:2e", 1, F, 64f);
        valued("f:2e", 5, F, 128f);
        valued("f:10p;w:2e", 0, W, 20f);
        valued("f:2e;w:2e", 1, W, 128f);
        valued("f:50%", 0, F, 0f);
        valued("w:50%", 0, W, 0f);
        valued("c:50%", 0, C, 0f);
        valued("c:50%+8", 1, C, 12f);
        valued("w:50%+8p", 1, W, 12f);
        valued("w:50%+8p", 5, W, 14f);
        valued("f:50%+8p", 5, F, 14f);
        valued("z:33.3%+7", 1, Z, 333f / 10f * 7f / 100f + 7f);
        valued("m:70%+7.7p", 1, M, 70f * (77f / 10f) / 100f + 77f / 10f);
        valued("h:3%+0.7p", 5, H,
                3f * (3f * (7f / 10f) / 100f + 7f / 10f) / 100f + 7f / 10f);
    }

    private static void arithmetic() {
        valued("z:1+2*3", 0, Z, 7f);
        valued("z:(1+2)*3", 0, Z, 9f);
        valued("z:7-2-3", 0, Z, 2f);
        valued("z:7-(2-3)", 0, Z, 8f);
        valued("z:8/4/2", 0, Z, 1f);
        valued("z:8/4*2", 0, Z, 4f);
        valued("z:8*4/2", 0, Z, 16f);
        valued("z:8/(4/2)", 0, Z, 4f);
        valued("z:1-2*3+4/2", 0, Z, -3f);
        valued("z:-2*3", 0, Z, -6f);
        valued("z:2*-3", 0, Z, -6f);
        valued("z:2--3", 0, Z, 5f);
        valued("z:-(2+3)", 0, Z, -5f);
        valued("z:--2", 0, Z, 2f);
        valued("z:1/3", 0, Z, 1f / 3f);
        valued("z:0.1+0.2", 0, Z, 1f / 10f + 2f / 10f);
        valued("z:0.1*0.2/0.3", 0, Z, 1f / 10f * (2f / 10f) / (3f / 10f));
        valued("z:1/3*3-1", 0, Z, 1f / 3f * 3f - 1f);
        valued("z:999.9*999.9+0.1", 0, Z, 9999f / 10f * (9999f / 10f) + 1f / 10f);
        valued("w:2*3p", 0, W, 6f);
        valued("w:3p*2", 0, W, 6f);
        valued("w:6p/2", 0, W, 3f);
        valued("w:1p+2p", 0, W, 3f);
        valued("w:1p-2p", 0, W, -1f);
        valued("w:-1p", 0, W, -1f);
        valued("w:-(1p+1e)/2*3", 0, W, -25.5f);
        valued("w:(1+1)*(1p+1p)", 0, W, 4f);
        valued("z:((((((1+1)*2)*2)*2)*2)*2)", 0, Z, 64f);
        valued("z:1+2*(1+2*(1+2*(1+2*(1+2*(1+2*(1+2*3))))))", 0, Z, 511f);
        valued("z:1+2*(1+2*(1+2*(1+2*(1+2*(1+2*(1+2*(3)))))))", 0, Z, "IllegalArgumentException");
        valued("z:1+2*(1+2*(1+2*(1+2*(1+2*(1+2*(1+2))))))", 0, Z, 255f);
    }

    private static void brokenSums() {
        broken("z:1p", Z);
        broken("c:1p", C);
        broken("c:1e", C);
        broken("w:1", W);
        broken("f:1", F);
        broken("h:1", H);
        broken("m:1", M);
        broken("w:0", W);
        broken("w:1+1p", W);
        broken("w:1p+1", W);
        broken("w:1-1p", W);
        broken("w:1p-1", W);
        broken("w:1p*1p", W);
        broken("w:1/1p", W);
        broken("w:1p/1p", W);
        broken("z:1p/1p", Z);
        broken("z:1/0", Z);
        broken("z:1/-0", Z);
        broken("z:1/(1-1)", Z);
        broken("w:1p/0", W);
        broken("z:0/0", Z);
        broken("z:1/0*0", Z);
        broken("z:-(1/0)", Z);
        broken("z:$a", Z);
        broken("z:1+$b", Z);
        broken("z:0*$c", Z);
        broken("w:1%+1", W);
        broken("c:1%+1p", C);
        broken("z:(1+1p)*0", Z);
        StyleDesk d = tree();
        rule(d, 0, "a{c:3;f:20p;w:5p;z:4}");
        rule(d, 0, "b{c:1p;f:3;w:4;z:1/0}");
        due("c broken is unset", () -> d.value(1, C), 3f);
        due("f broken is unset", () -> d.value(1, F), 20f);
        due("w broken is unset", () -> d.value(1, W), 0f);
        due("z broken is unset", () -> d.value(1, Z), 0f);
        rule(d, 0, "b{w:2e}");
        due("f of a broken one", () -> d.value(1, W), 40f);
        StyleDesk r = tree();
        rule(r, 0, "a{f:1;w:1e}");
        due("f of a broken root", () -> r.value(0, F), 16f);
        due("its e", () -> r.value(0, W), 16f);
    }

    private static void bounds() {
        valued("z:500*2*1000", 0, Z, "IllegalArgumentException");
        valued("z:500*2*500*2", 0, Z, 1000000f);
        valued("z:-500*2*500*2", 0, Z, -1000000f);
        broken("z:500*2*500*2+0.1", Z);
        broken("z:500*2*500*2+1", Z);
        broken("z:-500*2*500*2-1", Z);
        broken("z:500*2*500*2+1-1", Z);
        broken("z:999*999*9", Z);
        broken("z:999*999*9/999", Z);
        broken("w:999p*999*9", W);
        broken("w:-999p*999*9", W);
        broken("z:1/(1/999/999/9)", Z);
        broken("z:999/0.1/0.1/0.1/0.9", Z);
        valued("z:1/999/999/999/999/999/999/999/999/999/999/999/999/999/999/999/999", 0, Z, 0f);
        broken("z:1/(1/999/999/999/999/999/999/999/999/999/999/999/999/999/999/999/999)", Z);
        broken("z:999/(1/999/999/999/999/999/999/999/999/999/999/999/999/999/999/10)", Z);
        StyleDesk d = tree();
        rule(d, 0, "a{f:100e;w:500p*999;z:999*999}");
        rule(d, 0, "b{f:100e;w:999%/10;z:101%;h:9e}");
        due("e of 1600", () -> d.value(0, F), 1600f);
        due("e at the edge", () -> d.value(1, F), 160000f);
        due("e beyond", () -> d.how(1, H), 3);
        due("% beyond", () -> d.how(1, W), 3);
        due("% beyond by little", () -> d.how(1, Z), 3);
        rule(d, 0, "b{w:200%;z:100%;h:6e;m:7e}");
        due("% within", () -> d.value(1, W), 200f * 499500f / 100f);
        due("% of the same", () -> d.value(1, Z), 100f * 998001f / 100f);
        due("e within", () -> d.value(1, H), 960000f);
        due("e just beyond", () -> d.how(1, M), 3);
    }

    private static void named() {
        valued("$a:3;z:$a", 0, Z, 3f);
        valued("$a:3p;w:$a*2", 0, W, 6f);
        valued("$d:3;z:-$d", 0, Z, -3f);
        valued("$a:$b;$b:$c;$c:4;z:$a", 0, Z, 4f);
        valued("$a:1+2;z:$a*3", 0, Z, 9f);
        valued("$a:2;$b:$a*$a;$c:$b*$b;z:$c*$c", 0, Z, 256f);
        valued("$a:initial;z:$a", 0, Z, 0f);
        valued("$a:1;$a:2;z:$a", 0, Z, 2f);
        valued("$a:1!;$a:2;z:$a", 0, Z, 1f);
        broken("$a:initial;z:$a", Z);
        broken("$a:inherit;z:$a", Z);
        broken("$a:1p;z:$a", Z);
        broken("$a:1/0;z:$a", Z);
        broken("$a:$b;z:$a", Z);
        broken("$a:500*2*500*2;z:$a+1", Z);
        StyleDesk d = tree();
        rule(d, 0, "a{$a:3;z:$a}");
        rule(d, 0, "i{z:$a+1}");
        due("from an ancestor", () -> d.value(5, Z), 4f);
        rule(d, 0, "b{$a:5}");
        due("from a nearer one", () -> d.value(5, Z), 6f);
        due("not from below", () -> d.value(0, Z), 3f);
        rule(d, 0, "#x{$a:inherit}");
        due("through inherit", () -> d.value(5, Z), 4f);
        due("another branch", () -> d.value(6, Z), 6f);
        rule(d, 0, "#x{$a:initial}");
        due("stopped by initial", () -> d.how(5, Z), 3);
        due("unset by initial", () -> d.value(5, Z), 0f);
        rule(d, 0, "#x{$a:1/0}");
        due("stopped by a broken one", () -> d.how(5, Z), 3);
        rule(d, 0, "i{$a:9}");
        due("by its own", () -> d.value(5, Z), 10f);
    }

    private static void namedPlaces() {
        StyleDesk d = tree();
        rule(d, 0, "a{$a:$b;$b:1}");
        rule(d, 0, "b{$b:2;z:$a}");
        due("named values of a place are looked for there", () -> d.value(1, Z), 1f);
        rule(d, 0, "b{$a:$b}");
        due("and at the nearer place", () -> d.value(1, Z), 2f);
        rule(d, 0, "i{$b:3;z:$a}");
        due("below", () -> d.value(5, Z), 2f);
        rule(d, 0, "#x{$b:inherit}");
        due("inherit from the place found", () -> d.value(5, Z), 1f);

        StyleDesk up = tree();
        rule(up, 0, "a{$a:4}");
        rule(up, 0, "b{$b:$a}");
        rule(up, 0, "i{$a:$b;z:$a}");
        due("the same name farther up is no circle", () -> up.value(5, Z), 4f);
        due("it is a sum", () -> up.how(5, Z), 2);
    }

    private static void namedCircles() {
        broken("$a:$a;z:$a", Z);
        broken("$a:$a+1;z:$a", Z);
        broken("$a:$b;$b:$a;z:$a", Z);
        broken("$a:$b;$b:$c;$c:$b;z:$a", Z);
        broken("$a:0*$a;z:$a", Z);
        valued("$a:1+1;$b:$a+$a;z:$a+$b+$a", 0, Z, 8f);
        StyleDesk d = tree();
        rule(d, 0, "a{$a:4}");
        rule(d, 0, "b{$a:$a+1;z:$a}");
        due("itself, not the parent's", () -> d.how(1, Z), 3);
        StyleDesk far = tree();
        rule(far, 0, "a{$a:$b;$b:$a}");
        rule(far, 0, "i{$c:$a;z:$c}");
        due("a circle farther up", () -> far.how(5, Z), 3);
        StyleDesk through = tree();
        rule(through, 0, "a{$a:$b}");
        rule(through, 0, "b{$a:inherit;$b:5}");
        rule(through, 0, "i{z:$a}");
        due("not found at the place or above", () -> through.how(5, Z), 3);
        StyleDesk half = tree();
        rule(half, 0, "a{$a:$a;$b:3}");
        rule(half, 0, "b{z:$b;w:$a}");
        due("the circle breaks no other", () -> half.value(1, Z), 3f);
    }

    private static void namedForWhom() {
        StyleDesk d = tree();
        rule(d, 0, "a{f:10p;$a:2e;$b:50%;w:8p}");
        rule(d, 0, "b{f:$a;w:$a;h:$b;m:$b+1p}");
        due("e in f is of the parent", () -> d.value(1, F), 20f);
        due("e in another is of the element", () -> d.value(1, W), 40f);
        due("% of the property", () -> d.value(1, H), 0f);
        rule(d, 0, "b{w:$b}");
        due("% of the parent's", () -> d.value(1, W), 4f);
        rule(d, 0, "a{z:6;c:4}");
        rule(d, 0, "b{z:$b;c:$b}");
        due("% is plain for z", () -> d.value(1, Z), 3f);
        due("% is plain for c", () -> d.value(1, C), 2f);
        rule(d, 0, "i{f:$a;w:$a}");
        due("f below", () -> d.value(5, F), 40f);
        due("w below", () -> d.value(5, W), 80f);
        due("the root's own", () -> d.value(0, F), 10f);
        rule(d, 0, "a{f:$a}");
        due("16 for the root", () -> d.value(0, F), 32f);
    }

    // Promise 10

    private static void hows() {
        StyleDesk d = tree();
        due("no winner", () -> d.how(1, C), 0);
        rule(d, 0, "b{c:inherit;f:initial;w:1p;z:1p}");
        due("inherit", () -> d.how(1, C), 1);
        due("initial", () -> d.how(1, F), 1);
        due("a sum", () -> d.how(1, W), 2);
        due("not of the kind", () -> d.how(1, Z), 3);
        due("no winner beside", () -> d.how(1, H), 0);
        due("no winner below", () -> d.how(5, C), 0);
        rule(d, 0, "b{w:1/0;z:$a;$a:inherit;h:$b}");
        due("broken", () -> d.how(1, W), 3);
        due("broken by a name", () -> d.how(1, Z), 3);
        due("inherit on the root", () -> d.how(0, W), 0);
        rule(d, 0, "*{w:inherit!}");
        due("inherit by the root", () -> d.how(0, W), 1);
        due("inherit that is important", () -> d.how(1, W), 1);
        d.drop(2);
        due("as before", () -> d.how(1, W), 3);
    }

    private static void wrongAsks() {
        StyleDesk d = tree();
        for (int e : new int[] {-1, 8, 24, Integer.MAX_VALUE, Integer.MIN_VALUE}) {
            due("value of " + e, () -> d.value(e, 0), ELEMENT);
            due("how of " + e, () -> d.how(e, 0), ELEMENT);
            due("value of " + e + ", no property", () -> d.value(e, 6), ELEMENT);
            due("how of " + e + ", no property", () -> d.how(e, 6), ELEMENT);
        }
        for (int p : new int[] {-1, 6, 9, Integer.MAX_VALUE, Integer.MIN_VALUE}) {
            due("value of property " + p, () -> d.value(0, p), ARGUMENT);
            due("how of property " + p, () -> d.how(0, p), ARGUMENT);
        }
    }

    // Promise 11

    private static void counts() {
        StyleDesk d = tree();
        due("elements", () -> d.count(0), 8);
        rule(d, 0, "a{c:1}");
        rule(d, 0, "a{c:1}");
        due("rules", () -> d.count(1), 2);
        type(d, "a>b+c");
        due("characters", () -> d.count(2), 5);
        due("what 3", () -> d.count(3), -1);
        due("what -1", () -> d.count(-1), -1);
        due("what least", () -> d.count(Integer.MIN_VALUE), -1);
        due("asking changes nothing", () -> d.value(0, 0), 1f);
        due("characters stay", () -> d.count(2), 5);
    }

    /** Many names over many places end soon and right. */
    private static void longChains() {
        StyleDesk d = new StyleDesk();
        d.element(-1, 'a', 0, 0);
        for (int i = 1; i < 24; i++) {
            d.element(i - 1, i % 2 == 0 ? 'c' : 'b', 0, 0);
        }
        rule(d, 0, "*{$c:$d/2+$d/2;$d:$d}");
        rule(d, 0, "b{$a:$b/9+$b/9+$b/9+$b/9+$b/9+$b/9+$b/9+$b/9+$b/9;$b:inherit}");
        rule(d, 0, "c{$b:$a/8+$a/8+$a/8+$a/8+$a/8+$a/8+$a/8+$a/8;$a:inherit}");
        rule(d, 0, "a{$a:9;$b:8}");
        rule(d, 0, "*{z:$a;c:$b;w:$c;h:1p}");
        due("a long chain", () -> Math.abs(d.value(23, Z) - 8f) < 0.01f, true);
        due("how", () -> d.how(23, Z), 2);
        due("a wide circle", () -> d.how(23, W), 3);
        due("beside it", () -> d.value(23, H), 1f);

        StyleDesk most = new StyleDesk();
        most.element(-1, 'r', 0, 0);
        for (int i = 1; i < 24; i++) {
            most.element(i - 1, 'd' - i % 4, 0, 0);
        }
        rule(most, 0, "r{$a:7;$b:7;$c:7;$d:7}");
        rule(most, 0, "a{$a:$b;$b:$c;$c:$d;z:$a+1}");
        rule(most, 0, "b{$d:$a;$a:$b;$b:$c}");
        rule(most, 0, "c{$c:$d;$d:$a;$a:$b}");
        rule(most, 0, "d{$b:$c;$c:$d;$d:$a}");
        due("70 names that need one another", () -> most.value(23, Z), 8f);
        due("it is a sum", () -> most.how(23, Z), 2);
        rule(most, 0, "r{$a:$b}");
        rule(most, 0, "r{$b:$c}");
        rule(most, 0, "r{$c:$d}");
        due("73 of them", () -> most.value(23, Z), 8f);
        rule(most, 0, "r{$d:$a}");
        due("a circle at the end", () -> most.how(23, Z), 3);
    }

    // What the tests ask with

    private static void matched(String selectors, String elements) {
        StyleDesk d = tree();
        StyleDesk r = tree();
        rule(r, 0, selectors + "{z:5}");
        for (int i = 0; i < 8; i++) {
            int e = i;
            boolean in = elements.indexOf('0' + i) >= 0;
            due(selectors + " matches " + i, () -> matches(d, selectors, e), in);
            due(selectors + " sets " + i, () -> r.value(e, Z), in ? 5f : 0f);
        }
    }

    private static void weighed(String selectors, int e, int weight) {
        StyleDesk d = tree();
        rule(d, 1, selectors + "{c:1}");
        due("weight of " + selectors + " on " + e, () -> d.weight(0, e), weight);
    }

    private static void won(int winner, String... rules) {
        StyleDesk d = tree();
        for (String text : rules) {
            rule(d, text.charAt(0) - '0', text.substring(2));
        }
        due("winner of " + String.join(" ", rules), () -> d.winner(1, C), winner);
    }

    private static void valued(String declarations, int e, int property, Object due) {
        StyleDesk d = tree();
        String text = "*{" + declarations + "}";
        due("value by " + text, () -> {
            rule(d, 1, text);
            return d.value(e, property);
        }, due);
    }

    private static void broken(String declarations, int property) {
        StyleDesk d = tree();
        rule(d, 1, "a{" + declarations + "}");
        due("how by " + declarations, () -> d.how(0, property), 3);
        due("value by " + declarations, () -> d.value(0, property), property == F ? 16f : 0f);
    }

    private static void type(StyleDesk d, String text) {
        for (int i = 0; i < text.length(); i += 4) {
            int n = Math.min(4, text.length() - i);
            int word = 0;
            for (int j = 0; j < n; j++) {
                word = word << 8 | text.charAt(i + j);
            }
            if (!d.put(word, n)) {
                throw new AssertionError("not taken: " + text);
            }
        }
    }

    private static int rule(StyleDesk d, int origin, String text) {
        type(d, text);
        return d.rule(origin);
    }

    private static boolean matches(StyleDesk d, String text, int e) {
        type(d, text);
        return d.matches(e);
    }

    private static String drop(StyleDesk d, int k) {
        d.drop(k);
        return "nothing";
    }

    private static void due(String what, Call call, Object due) {
        Object got;
        try {
            got = call.run();
        } catch (RuntimeException e) {
            got = e.getClass().getSimpleName();
        }
        asked++;
        if (!got.equals(due)) {
            wrong++;
            System.out.println(what + ": " + got + ", due is " + due);
        }
    }
}
