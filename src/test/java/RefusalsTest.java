import java.util.function.Supplier;
import java.util.function.ToLongFunction;

/**
 * "REFUSALS: UNKNOWN -1, BAD -2, LATE -3, FULL -4. Of several what is told first. What is refused changes nothing."
 * For each refusal of each call: that it is told, and that nothing is otherwise behind it.
 */
public final class RefusalsTest {
    private static final Check check = new Check("RefusalsTest");
    private static final Twins twins = new Twins(check);

    private static final int UNKNOWN = DaysLent.UNKNOWN;
    private static final int BAD = DaysLent.BAD;
    private static final int LATE = DaysLent.LATE;
    private static final int FULL = DaysLent.FULL;
    private static final int MIN = Integer.MIN_VALUE;
    private static final int MAX = Integer.MAX_VALUE;

    /** What stands in village(): 0, 1, 2, 4 are alive and whole, 3 is BROKEN, 5 is dead. */
    private static final int BROKEN = 3;
    private static final int DEAD = 5;

    public static void main(String[] args) {
        theVillage();
        write();
        book();
        aboutPersonDebt();
        ask();
        lendUnknownAndBad();
        lendLate();
        lendFull();
        heirs();
        undo();
        settled();
        wishes();
        wishBys();
        runs();
        days();
        slots();
        nobody();
        whatAsksOnlyChangesNothing();
        check.end();
    }

    /** Acts to undo, a slot kept and one not, days told, a text that is another book than THE BOOK. */
    private static DaysLent village() {
        DaysLent x = Books.of("P302P051P209P000P991P104D01051D12102D03011D45203D54079D24304D40122");
        x.lend(4, 1, 3, 8);
        x.week();
        x.keep(0);
        x.heirs(DEAD, 18);
        x.ask(2, 1);
        x.lend(2, 0, 7, 9);
        x.day(0, 1, false);
        x.day(1, 2, true);
        x.day(2, 3, false);
        x.day(2, 3, true);
        x.day(DEAD, 4, true);
        Books.rewrite(x, "P111P222D01015");
        return x;
    }

    private static void theVillage() {
        DaysLent x = village();
        check.due("people", 6, x.about(0));
        check.due("debts", 7, x.about(1));
        check.due("acts", 4, x.about(3));
        check.due("alive", 31, x.about(4));
        check.due("broken", 1 << BROKEN, x.about(5));
        check.due("days", 5, x.about(8));
        check.due("text", 14, x.about(9));
    }

    private static void refused(String name, ToLongFunction<DaysLent> call, long refusal) {
        twins.unchanged(name, RefusalsTest::village, call, refusal);
    }

    private static void refused(String name, Supplier<DaysLent> made, ToLongFunction<DaysLent> call, long refusal) {
        twins.unchanged(name, made, call, refusal);
    }

    private static DaysLent villageWithText(String text) {
        DaysLent x = village();
        Books.rewrite(x, text);
        return x;
    }

    private static void write() {
        for (int n : new int[] {0, 9, -1, MIN, MAX}) {
            refused("write(" + n + ")", x -> x.write(n, Books.packed("P000P000")), BAD);
        }
        String two = "P100P200";
        String seventyTwo = two + "P300P400P500P600" + "D01011".repeat(8);
        for (int n = 1; n <= 8; n++) {
            int bytes = n;
            String text = "P000".repeat(20).substring(0, 81 - n);
            refused("write(" + n + ") behind " + text.length(), () -> villageWithText(text),
                    x -> x.write(bytes, Books.packed("P000P000")), FULL);
        }
        refused("write(8) behind 73, ahead a book and one byte", () -> villageWithText(seventyTwo + "P"),
                x -> x.write(8, 0), FULL);
        refused("write(9), and no room: BAD is told first", () -> villageWithText("P000".repeat(20)),
                x -> x.write(9, 0), BAD);
        refused("write(0), and no room: BAD is told first", () -> villageWithText("P000".repeat(20)),
                x -> x.write(0, 0), BAD);
    }

    private static void book() {
        for (String text : new String[] {"P", "P00", "x", "P000D", "P000P000D0100", "P000P000P00", "P000P000D01011D"}) {
            refused("book of " + text, () -> villageWithText(text), DaysLent::book, LATE);
        }
        refused("book of seven", () -> villageWithText("P000".repeat(7)), DaysLent::book, LATE);
        refused("book of nine debts", () -> villageWithText("P000P000" + "D01011".repeat(9)), DaysLent::book, LATE);
    }

    private static void aboutPersonDebt() {
        for (int what : new int[] {-1, 10, MIN, MAX}) {
            refused("about(" + what + ")", x -> x.about(what), BAD);
        }
        for (int person : new int[] {-1, 6, 32, MIN, MAX}) {
            refused("person(" + person + ", 0)", x -> x.person(person, 0), UNKNOWN);
            refused("person(" + person + ", 7): UNKNOWN is told first", x -> x.person(person, 7), UNKNOWN);
        }
        for (int what : new int[] {-1, 7, MIN, MAX}) {
            refused("person(0, " + what + ")", x -> x.person(0, what), BAD);
            refused("person(5, " + what + ") of a dead one", x -> x.person(DEAD, what), BAD);
        }
        for (int debt : new int[] {-1, 7, 12, MIN, MAX}) {
            refused("debt(" + debt + ", 0)", x -> x.debt(debt, 0), UNKNOWN);
            refused("debt(" + debt + ", 4): UNKNOWN is told first", x -> x.debt(debt, 4), UNKNOWN);
        }
        for (int what : new int[] {-1, 4, MIN, MAX}) {
            refused("debt(6, " + what + ")", x -> x.debt(6, what), BAD);
        }
    }

    private static void ask() {
        for (int person : new int[] {-1, 6, MIN, MAX}) {
            refused("ask(" + person + ", 5)", x -> x.ask(person, 5), UNKNOWN);
            refused("ask(" + person + ", 10): UNKNOWN is told first", x -> x.ask(person, 10), UNKNOWN);
        }
        for (int r : new int[] {-1, 10, MIN, MAX}) {
            refused("ask(0, " + r + ")", x -> x.ask(0, r), BAD);
        }
    }

    private static void lendUnknownAndBad() {
        for (int nobody : new int[] {-1, 6, MIN, MAX}) {
            refused("lend by " + nobody, x -> x.lend(nobody, 0, 1, 1), UNKNOWN);
            refused("lend to " + nobody, x -> x.lend(0, nobody, 1, 1), UNKNOWN);
            refused("both unknown: ahead of both are one", x -> x.lend(nobody, nobody, 1, 1), UNKNOWN);
            refused("unknown, a bad: UNKNOWN is told first", x -> x.lend(nobody, 0, 0, 1), UNKNOWN);
            refused("unknown, weeks bad: UNKNOWN is told first", x -> x.lend(0, nobody, 1, 10), UNKNOWN);
            refused("unknown, a dead one: UNKNOWN is told first", x -> x.lend(DEAD, nobody, 1, 1), UNKNOWN);
        }
        refused("both are one", x -> x.lend(0, 0, 1, 1), BAD);
        refused("both are a dead one: BAD is told first", x -> x.lend(DEAD, DEAD, 1, 1), BAD);
        for (int a : new int[] {0, 100, -1, MIN, MAX}) {
            refused("lend " + a, x -> x.lend(0, 2, a, 1), BAD);
            refused("lend " + a + " to a dead one: BAD is told first", x -> x.lend(0, DEAD, a, 1), BAD);
        }
        for (int weeks : new int[] {0, 10, -1, MIN, MAX}) {
            refused("lend for " + weeks, x -> x.lend(0, 2, 1, weeks), BAD);
            refused("lend for " + weeks + " to a broken one: BAD is told first", x -> x.lend(0, BROKEN, 1, weeks), BAD);
        }
    }

    private static void lendLate() {
        int has = village().person(2, 0);
        check.isTrue("it has some, but not 99", has > 0 && has < 99);
        refused("more than it has", x -> x.lend(2, 1, has + 1, 1), LATE);
        refused("by a dead one", x -> x.lend(DEAD, 1, 1, 1), LATE);
        refused("to a dead one", x -> x.lend(0, DEAD, 1, 1), LATE);
        refused("to a broken one", x -> x.lend(0, BROKEN, 1, 1), LATE);
        refused("81 with what is asked", () -> Books.of("P991P000P000"), x -> x.lend(0, 1, 54, 1), LATE);
        refused("81 with what was owed", () -> Books.of("P990P000P000D21801"), x -> x.lend(0, 1, 1, 1), LATE);
    }

    private static DaysLent withTwelveDebts() {
        DaysLent x = Books.of("P990P990P000P300D32051" + "D01011".repeat(7));
        x.week();
        x.undo();
        for (int i = 0; i < 4; i++) {
            x.lend(0, 1, 1, 9);
        }
        x.heirs(3, 1);
        return x;
    }

    private static void lendFull() {
        check.due("12 debts", 12, withTwelveDebts().about(1));
        refused("a 13th", RefusalsTest::withTwelveDebts, x -> x.lend(0, 1, 1, 1), FULL);
        refused("a 13th of two others", RefusalsTest::withTwelveDebts, x -> x.lend(1, 2, 1, 1), FULL);
        refused("UNKNOWN ahead of FULL", RefusalsTest::withTwelveDebts, x -> x.lend(0, 4, 1, 1), UNKNOWN);
        refused("BAD ahead of FULL", RefusalsTest::withTwelveDebts, x -> x.lend(0, 1, 1, 0), BAD);
        refused("LATE by a dead one ahead of FULL", RefusalsTest::withTwelveDebts, x -> x.lend(0, 3, 1, 1), LATE);
        refused("LATE by 81 ahead of FULL", RefusalsTest::withTwelveDebts, x -> x.lend(0, 1, 70, 1), LATE);
    }

    private static void heirs() {
        for (int person : new int[] {-1, 6, 32, MIN, MAX}) {
            refused("heirs of " + person, x -> x.heirs(person, 1), UNKNOWN);
            refused("heirs of " + person + ", none: UNKNOWN is told first", x -> x.heirs(person, 0), UNKNOWN);
            refused("heirs of " + person + ", a dead one: UNKNOWN is told first", x -> x.heirs(person, 32), UNKNOWN);
        }
        for (int heirs : new int[] {0, 1, 3, 31, 64, 66, 1 << 30, -1, -2, MIN, MAX}) {
            refused("heirs(0, " + heirs + ")", x -> x.heirs(0, heirs), BAD);
        }
        refused("heirs of a dead one, none: BAD is told first", x -> x.heirs(DEAD, 0), BAD);
        refused("heirs of a dead one, itself: BAD is told first", x -> x.heirs(DEAD, 32), BAD);
        refused("a dead heir, and one that there is not: BAD is told first", x -> x.heirs(0, 32 + 64), BAD);
        refused("heirs of a dead one", x -> x.heirs(DEAD, 1), LATE);
        refused("a dead heir", x -> x.heirs(0, 32), LATE);
        refused("a dead heir among others", x -> x.heirs(0, 2 + 4 + 32), LATE);
    }

    private static void undo() {
        refused("undo without acts", () -> {
            DaysLent x = village();
            x.again(0);
            return x;
        }, DaysLent::undo, LATE);
        refused("undo when all is undone", () -> {
            DaysLent x = village();
            for (int i = 0; i < 4; i++) {
                x.undo();
            }
            return x;
        }, DaysLent::undo, LATE);
        refused("undo behind a new book", () -> {
            DaysLent x = village();
            x.book();
            return x;
        }, DaysLent::undo, LATE);
    }

    private static void settled() {
        for (int set : new int[] {64, 65, 1 << 30, -1, -64, MIN, MAX}) {
            refused("falls(" + set + ")", x -> x.falls(set), BAD);
        }
        for (int person : new int[] {-1, 6, 32, MIN, MAX}) {
            refused("ring(" + person + ")", x -> x.ring(person), UNKNOWN);
            refused("room(" + person + ")", x -> x.room(person), UNKNOWN);
        }
    }

    private static void wishes() {
        for (int person : new int[] {-1, 6, MIN, MAX}) {
            refused("wish(" + person + ", 1)", x -> x.wish(person, 1), UNKNOWN);
            refused("wish(" + person + ", 0): UNKNOWN is told first", x -> x.wish(person, 0), UNKNOWN);
        }
        for (int a : new int[] {0, 100, -1, MIN, MAX}) {
            refused("wish(0, " + a + ")", x -> x.wish(0, a), BAD);
            refused("wish of a dead one for " + a + ": BAD is told first", x -> x.wish(DEAD, a), BAD);
        }
        refused("wish of a dead one", x -> x.wish(DEAD, 1), LATE);
        refused("wish of a dead one for more than all have: LATE, not NONE", x -> x.wish(DEAD, 99), LATE);
    }

    private static void wishBys() {
        for (int person : new int[] {-1, 6, MIN, MAX}) {
            refused("wishBy(" + person + ", 1, 0)", x -> x.wishBy(person, 1, 0), UNKNOWN);
            refused("wishBy(0, 1, " + person + ")", x -> x.wishBy(0, 1, person), UNKNOWN);
            refused("unknown, a bad: UNKNOWN is told first", x -> x.wishBy(person, 0, 0), UNKNOWN);
            refused("other unknown, a bad: UNKNOWN is told first", x -> x.wishBy(0, 100, person), UNKNOWN);
            refused("other unknown, one dead: UNKNOWN is told first", x -> x.wishBy(DEAD, 1, person), UNKNOWN);
        }
        for (int a : new int[] {0, 100, -1, MIN, MAX}) {
            refused("wishBy(0, " + a + ", 1)", x -> x.wishBy(0, a, 1), BAD);
            refused("of a dead one for " + a + ": BAD is told first", x -> x.wishBy(DEAD, a, 1), BAD);
        }
        refused("wishBy of a dead one", x -> x.wishBy(DEAD, 1, 0), LATE);
    }

    private static void runs() {
        for (int person : new int[] {-1, 6, 32, MIN, MAX}) {
            refused("run(" + person + ", 1)", x -> x.run(person, 1, true), UNKNOWN);
            refused("run(" + person + ", 11): UNKNOWN is told first", x -> x.run(person, 11, false), UNKNOWN);
            refused("enough(" + person + ", 1, 1)", x -> x.enough(person, 1, 1), UNKNOWN);
            refused("enough(" + person + ", 11, 101): UNKNOWN is told first", x -> x.enough(person, 11, 101), UNKNOWN);
        }
        for (int tenths : new int[] {-1, 11, MIN, MAX}) {
            refused("run(0, " + tenths + ", true)", x -> x.run(0, tenths, true), BAD);
            refused("run(0, " + tenths + ", false)", x -> x.run(0, tenths, false), BAD);
            refused("enough(0, " + tenths + ", 50)", x -> x.enough(0, tenths, 50), BAD);
        }
        for (int hundredths : new int[] {-1, 101, MIN, MAX}) {
            refused("enough(0, 5, " + hundredths + ")", x -> x.enough(0, 5, hundredths), BAD);
        }
    }

    private static DaysLent withTwelveDays() {
        DaysLent x = village();
        for (int day = 6; day <= 12; day++) {
            x.day(1, day, day % 2 == 0);
        }
        return x;
    }

    private static void days() {
        for (int person : new int[] {-1, 6, 32, MIN, MAX}) {
            refused("day(" + person + ", 1)", x -> x.day(person, 1, false), UNKNOWN);
            refused("day(" + person + ", 100): UNKNOWN is told first", x -> x.day(person, 100, true), UNKNOWN);
        }
        for (int day : new int[] {-1, 100, MIN, MAX}) {
            refused("day(0, " + day + ", false)", x -> x.day(0, day, false), BAD);
            refused("day(0, " + day + ", true)", x -> x.day(0, day, true), BAD);
        }
        check.due("12 days", 12, withTwelveDays().about(8));
        refused("a 13th TAKEN", RefusalsTest::withTwelveDays, x -> x.day(1, 2, false), FULL);
        refused("a 13th SEEN", RefusalsTest::withTwelveDays, x -> x.day(0, 1, true), FULL);
        refused("BAD ahead of FULL", RefusalsTest::withTwelveDays, x -> x.day(0, 100, true), BAD);
        refused("UNKNOWN ahead of FULL", RefusalsTest::withTwelveDays, x -> x.day(6, 1, true), UNKNOWN);
    }

    private static void slots() {
        for (int slot : new int[] {-1, 2, 32, MIN, MAX}) {
            refused("keep(" + slot + ")", x -> x.keep(slot), UNKNOWN);
            refused("again(" + slot + ")", x -> x.again(slot), UNKNOWN);
        }
        refused("again(1), that holds nothing", x -> x.again(1), LATE);
    }

    /** With nobody there each person is unknown, and no set but the empty one is one of PEOPLE. */
    private static void nobody() {
        refused("person", DaysLent::new, x -> x.person(0, 0), UNKNOWN);
        refused("debt", DaysLent::new, x -> x.debt(0, 0), UNKNOWN);
        refused("ask", DaysLent::new, x -> x.ask(0, 0), UNKNOWN);
        refused("lend", DaysLent::new, x -> x.lend(0, 1, 1, 1), UNKNOWN);
        refused("heirs", DaysLent::new, x -> x.heirs(0, 1), UNKNOWN);
        refused("undo", DaysLent::new, DaysLent::undo, LATE);
        refused("falls", DaysLent::new, x -> x.falls(1), BAD);
        refused("ring", DaysLent::new, x -> x.ring(0), UNKNOWN);
        refused("room", DaysLent::new, x -> x.room(0), UNKNOWN);
        refused("wish", DaysLent::new, x -> x.wish(0, 1), UNKNOWN);
        refused("wishBy", DaysLent::new, x -> x.wishBy(0, 1, 0), UNKNOWN);
        refused("run", DaysLent::new, x -> x.run(0, 1, true), UNKNOWN);
        refused("enough", DaysLent::new, x -> x.enough(0, 1, 1), UNKNOWN);
        refused("day", DaysLent::new, x -> x.day(0, 1, true), UNKNOWN);
        refused("again", DaysLent::new, x -> x.again(0), LATE);
    }

    /** Calls that only ask: behind them all is as it was, too. */
    private static void whatAsksOnlyChangesNothing() {
        DaysLent y = village();
        int[] about = new int[10];
        for (int what = 0; what <= 9; what++) {
            int one = what;
            about[what] = y.about(what);
            refused("about(" + what + ")", x -> x.about(one), about[what]);
        }
        refused("fault", DaysLent::fault, y.fault());
        refused("person", x -> x.person(2, 0), y.person(2, 0));
        refused("debt", x -> x.debt(6, 2), y.debt(6, 2));
        refused("fewest", DaysLent::fewest, y.fewest());
        refused("falls", x -> x.falls(5), y.falls(5));
        refused("ring", x -> x.ring(4), y.ring(4));
        refused("room", x -> x.room(4), y.room(4));
        refused("wish", x -> x.wish(3, 20), y.wish(3, 20));
        refused("wish that none can meet", () -> Books.of("P010P990"), x -> x.wish(1, 2), DaysLent.NONE);
        refused("wishBy", x -> x.wishBy(3, 20, 4), y.wishBy(3, 20, 4));
        refused("run", x -> x.run(4, 3, false), y.run(4, 3, false));
        refused("enough", x -> x.enough(4, 3, 90), y.enough(4, 3, 90));
        refused("cheats", DaysLent::cheats, y.cheats());
    }
}
