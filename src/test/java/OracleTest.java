import java.util.Random;

/** Runs of calls by fixed seeds: NUMBERS and THINGS against an Oracle over fractions without bounds. */
final class OracleTest {
    private static final int RUNS = 400;

    private final Random random;
    private final PlainGeometry x = new PlainGeometry();
    private final Oracle due = new Oracle();
    private final int mood;
    private static final long[][] answered = new long[4][20];
    private static final long[][] nothing = new long[4][20];

    private OracleTest(int seed) {
        random = new Random(seed);
        mood = seed % 4;
    }

    public static void main(String[] args) {
        for (int seed = 0; seed < RUNS; seed++) {
            new OracleTest(seed).run();
        }
        if (args.length > 0) {
            System.out.println(java.util.Arrays.deepToString(answered));
            System.out.println(java.util.Arrays.deepToString(nothing));
        }
        Due.end();
    }

    private void run() {
        makeNumbers();
        for (int i = 0; i < 14; i++) {
            step(0);
        }
        for (int calls = 40; calls < 500; calls++) {
            int choice = random.nextInt(100);
            if (choice < 40) {
                step(random.nextInt(21) - (random.nextInt(40) == 0 ? 1 : 0));
            } else if (choice < 55) {
                three();
            } else if (choice < 70) {
                measure();
            } else if (choice < 92) {
                holds();
            } else {
                apply();
            }
        }
        for (int i = 0; i < due.numbers.size(); i++) {
            compareNumber(i);
        }
        for (int i = 0; i < due.things.size(); i++) {
            compareThing(i);
        }
        Due.is("numbers", x.count(0), due.numbers.size());
        Due.is("things", x.count(1), due.things.size());
    }

    private void makeNumbers() {
        for (int i = 0; i < 12; i++) {
            long up = random.nextInt(11) - 5;
            long down = mood == 0 ? 1 : random.nextInt(4) + 1;
            if (mood == 3 && random.nextInt(3) == 0) {
                up = random.nextInt(1 << 20) - (1 << 19);
                down = random.nextInt(3) == 0 ? random.nextInt(1 << 12) + 1 : 1;
            }
            if (mood == 3 && i > 7) {
                up = (random.nextBoolean() ? 1 : -1) * ((1 << 20) - random.nextInt(2) * random.nextInt(9));
                down = (1 << 20) - 1;
            }
            if (mood == 2 && random.nextInt(4) == 0) {
                up = random.nextInt(2000) - 1000;
                down = random.nextInt(60) + 1;
            }
            Due.is("fraction", x.fraction(up, down), due.fraction(up, down));
        }
    }

    private int anyNumber() {
        int many = due.numbers.size();
        return random.nextInt(50) == 0 ? random.nextInt(3 * many) - many : random.nextInt(Math.min(many, mood == 1 ? many : 14));
    }

    /** Mostly a THING of that sort; now and then any number. */
    private int anyThing(char sort) {
        int many = due.things.size();
        if (many == 0 || random.nextInt(60) == 0) {
            return random.nextInt(many + 4) - 2;
        }
        for (int i = 0; i < 200; i++) {
            int t = random.nextInt(many);
            if (sort == 't' || due.sort(t) == "plc".indexOf(sort)) {
                return t;
            }
        }
        return random.nextInt(many);
    }

    private void tally(int table, int kind, int got) {
        if (kind >= 0 && kind < 20) {
            answered[table][kind] += got >= 0 ? 1 : 0;
            nothing[table][kind] += got == -3 ? 1 : 0;
        }
    }

    private void step(int kind) {
        String first = "nplpppppppl" + "cppllccpp?";
        String second = "nplpllllccc" + "cppcccccc?";
        int a = kind == 0 ? anyNumber() : anyThing(kind < 0 ? 't' : first.charAt(kind));
        int b = kind == 0 ? anyNumber() : anyThing(kind < 0 ? 't' : second.charAt(kind));
        int want = due.step(kind, a, b);
        Due.is("step(" + kind + ", " + tell(a) + ", " + tell(b) + ")", x.step(kind, a, b), want);
        tally(0, kind, want);
        if (want >= 0) {
            compareThing(want);
        }
    }

    private String tell(int t) {
        return due.sort(t) < 0 ? t + "" : t + " " + java.util.Arrays.toString(due.things.get(t).parts);
    }

    private void three() {
        int kind = random.nextInt(10);
        int a = anyThing('p');
        int b = kind == 8 ? anyNumber() : anyThing(kind == 7 ? 't' : 'p');
        int c = anyThing('p');
        if (kind == 5) {
            c = onLine(a, b, c);
        }
        int want = due.three(kind, a, b, c);
        Due.is("three(" + kind + ", " + tell(a) + ", " + b + ", " + tell(c) + ")", x.three(kind, a, b, c), want);
        tally(1, kind, want);
        if (want >= 0) {
            compareThing(want);
        }
        if (kind == 5 && want >= 0) {
            Due.is("harmonic", x.holds(14, a, b, c, want), 1);
            Due.is("harmonic, pairs swapped", x.holds(14, want, c, a, b), 1);
            Due.is("harmonic, pairs mixed", x.holds(14, a, c, b, want), 0);
        }
    }

    /** A POINT of the line of a and b, if there is another one. */
    private int onLine(int a, int b, int other) {
        for (int i = 0; i < 300; i++) {
            int c = anyThing('p');
            if (c != a && c != b && due.holds(0, a, b, c, 0) == 1) {
                return c;
            }
        }
        return other;
    }

    private void measure() {
        String[] told = {"ptt", "ptt", "ppt", "pct", "ctt", "ppp", "plt", "ttt"};
        int kind = random.nextInt(8);
        int a = anyThing(told[kind].charAt(0));
        int b = anyThing(told[kind].charAt(1));
        int c = anyThing(told[kind].charAt(2));
        int want = due.measure(kind, a, b, c);
        Due.is("measure(" + kind + ", " + tell(a) + ", " + tell(b) + ", " + tell(c) + ")", x.measure(kind, a, b, c), want);
        tally(2, kind, want);
        if (want >= 0) {
            compareNumber(want);
        }
    }

    private void holds() {
        String[] told = {"pppt", "lllt", "pltt", "pctt", "lltt", "lltt", "pppp", "pppp", "lctt", "cctt", "cctt", "pppt", "pctt", "llct", "pppp", "tttt"};
        int kind = random.nextInt(16);
        for (int turn = 0; turn < 5; turn++) {
            int a = anyThing(told[kind].charAt(0));
            int b = anyThing(told[kind].charAt(1));
            int c = anyThing(told[kind].charAt(2));
            int d = anyThing(told[kind].charAt(3));
            if (kind == 14) {
                c = onLine(a, b, c);
                d = onLine(a, c, d);
            }
            if (turn == 0 && due.holds(kind, a, b, c, d) == 0) {
                d = kind == 6 || kind == 7 || kind == 14 ? lastOf(kind, a, b, c) : d;
                b = kind == 9 || kind == 10 ? secondOf(kind, a, b) : b;
            }
            int want = due.holds(kind, a, b, c, d);
            Due.is("holds(" + kind + ", " + tell(a) + ", " + tell(b) + ", " + tell(c) + ", " + tell(d) + ")", x.holds(kind, a, b, c, d), want);
            answered[3][kind] += want == 1 ? 1 : 0;
            nothing[3][kind] += want == 0 ? 1 : 0;
        }
    }

    private int lastOf(int kind, int a, int b, int c) {
        for (int d = 0; d < due.things.size(); d++) {
            if (due.holds(kind, a, b, c, d) == 1) {
                return d;
            }
        }
        return c;
    }

    private int secondOf(int kind, int a, int other) {
        for (int b = 0; b < due.things.size(); b++) {
            if (due.holds(kind, a, b, 0, 0) == 1) {
                return b;
            }
        }
        return other;
    }

    private void apply() {
        int op = random.nextInt(11);
        int a = anyNumber();
        int b = anyNumber();
        int want = due.apply(op, a, b);
        Due.is("apply(" + op + ", " + a + ", " + b + ")", x.apply(op, a, b), want);
        if (want >= 0) {
            compareNumber(want);
        }
    }

    private void compareNumber(int a) {
        Q q = due.numbers.get(a);
        Due.is("n of " + q, x.numberOf(a, 0), q.n.longValueExact());
        Due.is("d of " + q, x.numberOf(a, 1), q.d.longValueExact());
        Due.is("near " + q, x.near(a), new java.math.BigDecimal(q.n).divide(new java.math.BigDecimal(q.d), new java.math.MathContext(60)).doubleValue());
    }

    private void compareThing(int t) {
        Oracle.Thing thing = due.things.get(t);
        Due.is("sort of " + t, x.thing(t, 0), thing.sort);
        for (int i = 0; i < thing.parts.length; i++) {
            Due.is("part " + i + " of " + t, x.thing(t, i + 1), thing.parts[i].longValueExact());
        }
    }
}
