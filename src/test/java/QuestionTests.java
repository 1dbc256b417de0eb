import java.util.Random;

/** Promise 37: random questions, answered from their trees, and faults told along the text. */
public final class QuestionTests {
    private static final long NOTHING = EvenOars.NOTHING;

    private final Random random;
    private final SlowOars slow;
    private final StringBuilder text = new StringBuilder();

    private QuestionTests(Random random, SlowOars slow) {
        this.random = random;
        this.slow = slow;
    }

    public static void main(String[] args) {
        for (int run = 0; run < 1500 && !Check.anyWrong(); run++) {
            randomRun(new Random(run));
        }
        for (int run = 0; run < 3000 && !Check.anyWrong(); run++) {
            spoiled(new Random(run));
        }
        answers();
        faults();
        Check.done("QuestionTests");
    }

    private static void randomRun(Random random) {
        SlowOars slow = SlowOars.random(random, 6, 6);
        slow.orderRuns();
        String boat = slow.text(random);
        if (boat.length() > 1600 || boat.length() - boat.replace(";", "").length() > 70) {
            return;
        }
        EvenOars oars = Tapes.boat(boat);
        int far = random.nextInt(4) == 0 ? 50 : random.nextInt(3);
        for (int k = 0; k < far; k++) {
            int n = far == 50 ? 200 : 1 + random.nextInt(30);
            oars.stroke(n);
            slow.stroke(n);
        }
        for (int k = 0; k < 6; k++) {
            QuestionTests question = new QuestionTests(random, slow);
            int kind = random.nextInt(6);
            question.text.append(new String[] {"first", "last", "often", "total", "most", "least"}[kind]);
            Node tree = kind < 3 ? question.test(3, 0) : question.sum(4, 0);
            if (question.text.length() <= 1600) {
                long due = answer(kind, tree, slow);
                Check.same(boat + "\nask " + question.text, Tapes.ask(oars, question.text.toString()), due);
                Check.same("no fault", oars.fault(0), 0);
            }
        }
    }

    /** Up to the fault of a spoiled question some question goes on, so what stands there just ends too soon. */
    private static void spoiled(Random random) {
        QuestionTests made = new QuestionTests(random, new SlowOars());
        made.text.append(random.nextBoolean() ? "first" : "often");
        made.test(4, 0);
        StringBuilder text = made.text;
        String signs = "([])<>=+-*/, \nnotalswingfrce 0123456789;";
        for (int k = 1 + random.nextInt(3); k > 0; k--) {
            int at = random.nextInt(text.length());
            int end = Math.min(text.length(), at + 1 + random.nextInt(8));
            switch (random.nextInt(4)) {
                case 0: text.delete(at, end); break;
                case 1: text.insert(at, signs.charAt(random.nextInt(signs.length()))); break;
                case 2: text.setCharAt(at, signs.charAt(random.nextInt(signs.length()))); break;
                default: text.insert(random.nextInt(text.length()), text.substring(at, end)); break;
            }
            text.append(' ');
        }
        if (text.length() > 1600) {
            return;
        }
        EvenOars oars = new EvenOars();
        boolean nothing = Tapes.ask(oars, text.toString()) == NOTHING;
        int place = oars.fault(1);
        Check.same("nothing with a fault alone: " + text, nothing, oars.fault(0) != 0);
        if (nothing) {
            Check.that("a place along the text: " + text, place >= 0 && place <= text.length());
            Tapes.ask(oars, text.substring(0, place));
            Check.that("goes on ahead of " + place + " in " + text,
                    oars.fault(0) == 0 || (oars.fault(0) == 1 && oars.fault(1) == place));
        }
    }

    private static long answer(int kind, Node tree, SlowOars slow) {
        long first = -1;
        long last = -1;
        long often = 0;
        long total = 0;
        long most = Long.MIN_VALUE;
        long least = Long.MAX_VALUE;
        for (int at = slow.stroke; at <= slow.stroke + 100 && at <= 9999; at++) {
            long value = tree.value(slow, at);
            if (value != 0) {
                first = first == -1 ? at : first;
                last = at;
                often++;
            }
            total += value;
            most = Math.max(most, value);
            least = Math.min(least, value);
        }
        return new long[] {first, last, often, total, most, least}[kind];
    }

    private interface Node {
        long value(SlowOars slow, int at);
    }

    private static long held(long value) {
        return Math.max(-1000000, Math.min(1000000, value));
    }

    private void word(String word) {
        char last = text.charAt(text.length() - 1);
        boolean solid = Character.isLetterOrDigit(last) && Character.isLetterOrDigit(word.charAt(0));
        if (solid || random.nextInt(4) == 0) {
            text.append(random.nextInt(5) == 0 ? '\n' : ' ');
        }
        text.append(word);
    }

    private Node test(int size, int open) {
        Node left = both(size, open);
        for (int more = random.nextInt(3); more > 1; more--) {
            word("or");
            Node first = left;
            Node second = both(size - 1, open);
            left = (s, at) -> first.value(s, at) != 0 || second.value(s, at) != 0 ? 1 : 0;
        }
        return left;
    }

    private Node both(int size, int open) {
        Node left = fact(size, open);
        for (int more = random.nextInt(3); more > 1; more--) {
            word("and");
            Node first = left;
            Node second = fact(size - 1, open);
            left = (s, at) -> first.value(s, at) != 0 && second.value(s, at) != 0 ? 1 : 0;
        }
        return left;
    }

    private Node fact(int size, int open) {
        int kind = size <= 0 || open >= 6 ? 0 : random.nextInt(5);
        if (kind == 1) {
            word("not");
            Node inner = fact(size - 1, open + 1);
            return (s, at) -> inner.value(s, at) == 0 ? 1 : 0;
        }
        if (kind == 2) {
            word("[");
            Node inner = test(size - 1, open + 1);
            word("]");
            return inner;
        }
        if (kind == 3 && random.nextInt(3) == 0) {
            word("all");
            return (s, at) -> 1;
        }
        Node left = sum(size - 1, open);
        int sign = random.nextInt(3);
        word(new String[] {"<", ">", "="}[sign]);
        Node right = sum(size - 1, open);
        int due = new int[] {-1, 1, 0}[sign];
        return (s, at) -> Long.compare(left.value(s, at), right.value(s, at)) == due ? 1 : 0;
    }

    private Node sum(int size, int open) {
        Node left = product(size, open);
        for (int more = random.nextInt(3); more > 0; more--) {
            boolean plus = random.nextBoolean();
            word(plus ? "+" : "-");
            Node first = left;
            Node second = product(size - 1, open);
            left = (s, at) -> held(first.value(s, at) + (plus ? 1 : -1) * second.value(s, at));
        }
        return left;
    }

    private Node product(int size, int open) {
        Node left = part(size, open);
        for (int more = random.nextInt(3); more > 1; more--) {
            boolean times = random.nextBoolean();
            word(times ? "*" : "/");
            Node first = left;
            Node second = part(size - 1, open);
            left = (s, at) -> {
                long a = first.value(s, at);
                long b = second.value(s, at);
                if (times) {
                    return held(a * b);
                }
                return b == 0 ? 0 : (long) Math.floor((double) a / b);
            };
        }
        return left;
    }

    private Node part(int size, int open) {
        int kind = size <= 0 || open >= 6 ? random.nextInt(4) : random.nextInt(9);
        switch (kind) {
            case 0:
                word("stroke");
                return (s, at) -> at;
            case 1:
                word("off");
                return (s, at) -> held(s.off(at, s.rowerOf, s.right));
            case 2:
                word("good");
                return (s, at) -> s.good(at, s.rowerOf, s.right) ? 1 : 0;
            case 3:
                int n = random.nextInt(new int[] {5, 100, 100000}[random.nextInt(3)]);
                word(Integer.toString(n));
                return (s, at) -> n;
            case 4:
                word("swing");
                Node power = part(size - 1, open + 1);
                return (s, at) -> {
                    long p = power.value(s, at);
                    return p < 0 || p > 3 ? 0 : held(s.swing((int) p, at));
                };
            case 5:
                word("force");
                Node rower = part(size - 1, open + 1);
                return (s, at) -> {
                    long r = rower.value(s, at);
                    return r < 0 || r >= s.strength.length ? 0 : s.strengthAt((int) r, at);
                };
            case 6:
                word("(");
                Node inner = sum(size - 1, open + 1);
                word(")");
                return inner;
            default:
                boolean least = kind == 7;
                word(least ? "min" : "max");
                word("(");
                Node a = sum(size - 1, open + 1);
                word(",");
                Node b = sum(size - 1, open + 1);
                word(")");
                return (s, at) -> least ? Math.min(a.value(s, at), b.value(s, at))
                        : Math.max(a.value(s, at), b.value(s, at));
        }
    }

    private static void answers() {
        EvenOars oars = Tapes.boat("seat 1 arm 99;seat 99 arm 99;rower a strength 99 tires 9;"
                + "rower b strength 99 tires 0;want 3 is 0;near 9999;");
        Check.same("a held swing", Tapes.ask(oars, "most swing 3"), 1000000);
        Check.same("a held off", Tapes.ask(oars, "least off"), 1000000);
        Check.same("a product held below", Tapes.ask(oars, "least (0-9999)*9999"), -1000000);
        Check.same("a sum held", Tapes.ask(oars, "most swing 3+swing 3"), 1000000);
        Check.same("a difference held", Tapes.ask(oars, "least 0-swing 3-swing 3"), -1000000);
        Check.same("a total, not held", Tapes.ask(oars, "total swing 3"), 101000000);
        Check.same("from the left on", Tapes.ask(oars, "most 10-3-2"), 5);
        Check.same("from the left on", Tapes.ask(oars, "most 7/2*2"), 6);
        Check.same("products first", Tapes.ask(oars, "most 2+3*4"), 14);
        Check.same("not above", Tapes.ask(oars, "most (0-7)/2"), -4);
        Check.same("not above", Tapes.ask(oars, "most (0-7)/(0-2)"), 3);
        Check.same("by 0", Tapes.ask(oars, "most 7/0+1"), 1);
        Check.same("and ahead of or", Tapes.ask(oars, "often all or all and 1>2"), 101);
        Check.same("[ ]", Tapes.ask(oars, "often [all or all] and 1>2"), 0);
        Check.same("not its fact alone", Tapes.ask(oars, "often not 1>2 and 2>1"), 101);
        Check.same("swing its part alone", Tapes.ask(oars, "most swing 0+1000-swing 0"), 1000);
        Check.same("no such power", Tapes.ask(oars, "most swing(0-1)+swing 4"), 0);
        Check.same("no such rower", Tapes.ask(oars, "most force(0-1)+force 2"), 0);
        Check.same("six open", Tapes.ask(oars, "most ((((((5))))))"), 5);
        Check.same("six open", Tapes.ask(oars, "often not not [not [[all]]]"), 0);
        Check.same("six open, then six others", Tapes.ask(oars, "often not not not not not not all and ((((((1))))))=1"), 101);
        Check.same("blanks", Tapes.ask(oars, "\n first\n[all ]\n"), 0);
        Check.same("min", Tapes.ask(oars, "most min(stroke,40)"), 40);
        Check.same("max", Tapes.ask(oars, "least max ( stroke , 40 )"), 40);
        for (int k = 0; k < 49; k++) {
            oars.stroke(200);
        }
        Check.same("from STROKE on", Tapes.ask(oars, "first all"), 9800);
        Check.same("100 on", Tapes.ask(oars, "last all"), 9900);
        oars.stroke(199);
        Check.same("9999 at most", Tapes.ask(oars, "last all"), 9999);
        Check.same("9999 at most", Tapes.ask(oars, "often all"), 1);
        Check.same("fault", Tapes.ask(oars, "often al"), NOTHING);
        Check.same("the tape went", oars.feed(0, 0, 0, 0, 0), 20);
        Check.same("refused texts", oars.status(1), 0);
    }

    private static void faults() {
        int count = 0;
        EvenOars oars = new EvenOars();
        Object[][] rows = {
            {"", 1, 0}, {"   ", 1, 3}, {"all", 1, 0}, {"firs", 1, 0}, {"First all", 1, 0}, {"firstall", 1, 0},
            {"first", 1, 5}, {"first ", 1, 6}, {"first fast", 1, 6}, {"first first", 1, 6}, {"first or", 1, 6},
            {"first;", 1, 5}, {"first5<6", 1, 5}, {"first 5<6all", 1, 9}, {"first 5<", 1, 8}, {"first 5", 1, 7},
            {"first 5+", 1, 8}, {"first 5<6 or", 1, 12}, {"first 5<6 xor 7<8", 1, 10}, {"first 5<=6", 1, 8},
            {"first [all", 1, 10}, {"first [all)", 1, 10}, {"first all]", 1, 9}, {"first (all)", 1, 7},
            {"first [1]<2", 1, 8}, {"first not", 1, 9}, {"first not 5", 1, 11}, {"first all and and", 1, 14},
            {"first all all", 1, 10}, {"first all 1234567", 1, 10}, {"first all=all", 1, 9}, {"last", 1, 4},
            {"total", 1, 5}, {"total all", 1, 6}, {"total not", 1, 6}, {"total 1 2", 1, 8}, {"total 1,2", 1, 7},
            {"total 123456", 1, 11}, {"total 12345", 0, -1}, {"total 00000", 0, -1}, {"total 1*-1", 1, 8},
            {"total -1", 1, 6}, {"total swing", 1, 11}, {"total swing1", 1, 11}, {"total swing 1 1", 1, 14},
            {"total swing(1", 1, 13}, {"total force", 1, 11}, {"total min", 1, 9}, {"total min 1", 1, 10},
            {"total min(", 1, 10}, {"total min(1", 1, 11}, {"total min(1)", 1, 11}, {"total min(1,", 1, 12},
            {"total min(1,2", 1, 13}, {"total min(1,2,3)", 1, 13}, {"total (1", 1, 8}, {"total ()", 1, 7},
            {"total stroke<1", 1, 12}, {"total strokes", 1, 6}, {"total stroke stroke", 1, 13}, {"total 1\t", 1, 7},
            {"total 1\u00e9", 1, 7}, {"total 5a", 1, 7}, {"often all;", 1, 9}, {"most good of", 1, 10},
            {"first (((((((1", 4, 12}, {"first [[[[[[[all", 4, 12}, {"first [[[[[[(1", 4, 12},
            {"first [[[[[[not all", 4, 12}, {"first [[[[[[ swing 1<2", 4, 13}, {"first [[[[[[force 1", 4, 12},
            {"first [[[[[[min(1,2)<3", 4, 15}, {"first [[[[[[min 1", 1, 16}, {"first [[[[[[max", 1, 15},
            {"total swing swing swing swing swing swing swing 1", 4, 42},
            {"total min(min(min(min(min(min(min(", 4, 33},
            {"total min(min(min(min(min(min(1,(", 4, 32},
            {"first not not not [[[((1", 4, 21}, {"total ((((((swing 1", 4, 12}, {"total ((((((1))))))+(((((((1", 4, 26},
            {"total force swing force swing force swing 1", 0, -1}, {"total swing 1+((((((1))))))", 0, -1},
            {"first all and (((((((1", 4, 20}, {"first all or [[[[[[[all", 4, 19},
            {"total 1+(((((((1", 4, 14}, {"total 1*(((((((1", 4, 14}, {"first 1<(((((((1", 4, 14},
            {"total min(1,((((((1", 4, 17}, {"total max(((((((1,2", 4, 15}, {"first [(((((((1", 4, 12},
            {"total swing((((((1))))))", 4, 16}, {"first [[[[[[123456", 1, 17}, {"first [[[[[[[", 4, 12},
        };
        for (Object[] row : rows) {
            if (count++ % 60 == 0) {
                oars = new EvenOars();
            }
            String question = (String) row[0];
            long answer = Tapes.ask(oars, question);
            Check.same("fault of " + question, oars.fault(0), (Integer) row[1]);
            Check.same("its place in " + question, oars.fault(1), (Integer) row[2]);
            Check.same("nothing for " + question, answer == NOTHING, (Integer) row[1] != 0);
            Check.same("no other of a fault", oars.fault(2), -1);
        }
    }
}
