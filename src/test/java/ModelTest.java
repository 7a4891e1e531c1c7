import java.util.Random;

/** Random runs of calls, each answer against that of Model. The seeds are fixed, so that a run can be had again. */
public final class ModelTest {
    private static final int RUNS = 600;
    /** Not all 512: a last book and a look at all come behind them. */
    private static final int CALLS = 320;

    private static final Check check = new Check("ModelTest");

    private final Random random;
    private final int seed;
    private final DaysLent x = new DaysLent();
    private final Model m = new Model();
    private final StringBuilder history = new StringBuilder();
    private int calls = 0;
    private boolean wrong = false;

    private ModelTest(int seed) {
        this.seed = seed;
        this.random = new Random(seed);
    }

    public static void main(String[] args) {
        int wrongRuns = 0;
        for (int seed = 0; seed < RUNS && wrongRuns < 3; seed++) {
            wrongRuns += new ModelTest(seed).isRunWrong() ? 1 : 0;
        }
        check.end();
    }

    private boolean isRunWrong() {
        while (calls < CALLS && !wrong) {
            if (m.about(0) == 0 && random.nextInt(3) > 0 || random.nextInt(60) == 0) {
                newBook();
            } else {
                oneCall(random.nextInt(100));
            }
        }
        if (!wrong) {
            lookAtAll();
        }
        return wrong;
    }

    private void due(String call, long want, long got) {
        calls++;
        history.append(call).append(" = ").append(got).append("; ");
        check.due("seed " + seed + ", call " + calls + ", " + call, want, got);
        if (want != got) {
            wrong = true;
            System.out.println(history);
        }
    }

    private int upTo(int most) {
        return random.nextInt(most + 1);
    }

    /** Mostly a person that there is. */
    private int who() {
        int people = m.about(0);
        if (random.nextInt(25) == 0 || people == 0) {
            return random.nextBoolean() ? upTo(8) - 1 : wild();
        }
        return random.nextInt(people);
    }

    /** Mostly a number from least to most. */
    private int number(int least, int most) {
        return switch (random.nextInt(60)) {
            case 0 -> least - 1;
            case 1 -> most + 1;
            case 2 -> wild();
            default -> least + upTo(most - least);
        };
    }

    /** Numbers near the ends of int, powers of two among them, and any others. */
    private int wild() {
        return switch (random.nextInt(3)) {
            case 0 -> Integer.MIN_VALUE + upTo(2) - 1;
            case 1 -> 1 << upTo(31);
            default -> random.nextInt();
        };
    }

    /** Mostly a set of people that there are. */
    private int set() {
        return random.nextInt(20) == 0 ? wild() >> upTo(31) : random.nextInt(1 << m.about(0));
    }

    private String randomBook() {
        int people = 1 + upTo(5);
        int most = random.nextBoolean() ? 9 : 99;
        int mostOwed = random.nextBoolean() ? 5 : 99;
        StringBuilder text = new StringBuilder();
        int told = 0;
        for (int debts = 0; told < people || debts < 8 && random.nextInt(8) > 0;) {
            if (told < people && (told < 2 || random.nextInt(3) > 0)) {
                text.append(String.format("P%02d%d", upTo(most), upTo(random.nextBoolean() ? 2 : 9)));
                told++;
            } else if (told >= 2 && debts < 8) {
                int i = random.nextInt(told);
                int j = (i + 1 + random.nextInt(told - 1)) % told;
                text.append(String.format("D%d%d%02d%d", i, j, 1 + upTo(mostOwed - 1), 1 + upTo(8)));
                debts++;
            } else if (told < 2) {
                break;
            }
        }
        return text.toString();
    }

    private void newBook() {
        StringBuilder text = new StringBuilder(randomBook());
        if (random.nextInt(3) == 0 && text.length() > 0) {
            spoil(text);
        }
        if (random.nextInt(8) > 0) {
            due("wipe()", m.wipe(), x.wipe());
        }
        for (int at = 0; at < text.length();) {
            int n = Math.min(1 + upTo(7), text.length() - at);
            long v = Books.packed(text.substring(at, at + n)) | (n < 8 ? random.nextLong() << 8 * n : 0);
            due("write(" + n + ", " + v + "L)", m.write(n, v), x.write(n, v));
            at += n;
        }
        due("fault()", m.fault(), x.fault());
        due("book()", m.book(), x.book());
    }

    private void spoil(StringBuilder text) {
        int place = random.nextInt(text.length());
        String signs = "PD0123456789/:pd\u0000\u00ff";
        switch (random.nextInt(3)) {
            case 0 -> text.setCharAt(place, signs.charAt(random.nextInt(signs.length())));
            case 1 -> text.setLength(place);
            default -> text.insert(place, signs.charAt(random.nextInt(signs.length())));
        }
    }

    private void oneCall(int kind) {
        int p = who();
        int q = who();
        if (kind < 22) {
            int a = random.nextInt(3) > 0 ? number(1, 12) : number(1, 99);
            int weeks = number(1, 9);
            due("lend(" + p + ", " + q + ", " + a + ", " + weeks + ")", m.lend(p, q, a, weeks), x.lend(p, q, a, weeks));
        } else if (kind < 30) {
            due("week()", m.week(), x.week());
        } else if (kind < 33) {
            int set = set();
            due("heirs(" + p + ", " + set + ")", m.heirs(p, set), x.heirs(p, set));
        } else if (kind < 34) {
            due("jubilee()", m.jubilee(), x.jubilee());
        } else if (kind < 40) {
            due("undo()", m.undo(), x.undo());
        } else if (kind < 44) {
            int r = number(0, 9);
            due("ask(" + p + ", " + r + ")", m.ask(p, r), x.ask(p, r));
        } else {
            oneQuestion(kind, p, q);
        }
    }

    private void oneQuestion(int kind, int p, int q) {
        int tenths = number(0, 10);
        if (kind < 49) {
            due("fewest()", m.fewest(), x.fewest());
        } else if (kind < 54) {
            int set = set();
            due("falls(" + set + ")", m.falls(set), x.falls(set));
        } else if (kind < 59) {
            due("ring(" + p + ")", m.ring(p), x.ring(p));
            due("room(" + p + ")", m.room(p), x.room(p));
        } else if (kind < 68) {
            int a = random.nextInt(3) > 0 ? number(1, 20) : number(1, 99);
            due("wish(" + p + ", " + a + ")", m.wish(p, a), x.wish(p, a));
            due("wishBy(" + p + ", " + a + ", " + q + ")", m.wishBy(p, a, q), x.wishBy(p, a, q));
        } else if (kind < 73) {
            boolean upper = random.nextBoolean();
            due("run(" + p + ", " + tenths + ", " + upper + ")", m.run(p, tenths, upper), x.run(p, tenths, upper));
        } else if (kind < 78) {
            int y = number(0, 100);
            due("enough(" + p + ", " + tenths + ", " + y + ")", m.enough(p, tenths, y), x.enough(p, tenths, y));
        } else {
            oneOfTheRest(kind, p);
        }
    }

    private void oneOfTheRest(int kind, int p) {
        int slot = number(0, 1);
        if (kind < 83) {
            int day = random.nextInt(6) > 0 ? upTo(2) : number(0, 99);
            boolean seen = random.nextBoolean();
            due("day(" + p + ", " + day + ", " + seen + ")", m.day(p, day, seen), x.day(p, day, seen));
            due("cheats()", m.cheats(), x.cheats());
        } else if (kind < 84) {
            int n = random.nextBoolean() ? wild() : 9 - 9 * upTo(1);
            due("write(" + n + ", 80L)", m.write(n, 80), x.write(n, 80));
            due("forget()", m.forget(), x.forget());
        } else if (kind < 87) {
            due("keep(" + slot + ")", m.keep(slot), x.keep(slot));
        } else if (kind < 89) {
            due("again(" + slot + ")", m.again(slot), x.again(slot));
        } else if (kind < 92) {
            int what = number(0, 9);
            due("about(" + what + ")", m.about(what), x.about(what));
        } else if (kind < 96) {
            int what = number(0, 6);
            due("person(" + p + ", " + what + ")", m.person(p, what), x.person(p, what));
        } else {
            int debt = number(0, 11);
            int what = number(0, 3);
            due("debt(" + debt + ", " + what + ")", m.debt(debt, what), x.debt(debt, what));
        }
    }

    private void lookAtAll() {
        for (int what = 0; what <= 9; what++) {
            due("about(" + what + ")", m.about(what), x.about(what));
        }
        for (int person = 0; person < 6; person++) {
            for (int what = 0; what <= 6; what++) {
                due("person(" + person + ", " + what + ")", m.person(person, what), x.person(person, what));
            }
        }
        for (int debt = 0; debt < 12; debt++) {
            for (int what = 0; what <= 3; what++) {
                due("debt(" + debt + ", " + what + ")", m.debt(debt, what), x.debt(debt, what));
            }
        }
    }
}
