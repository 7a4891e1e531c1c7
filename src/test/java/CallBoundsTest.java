import java.util.function.IntFunction;

/**
 * For each promise the arguments' bounds, on both sides: each number that may be told is taken, and those next to them,
 * and those far away, are refused. What refused calls must not change is looked at by RefusalsTest.
 */
public final class CallBoundsTest {
    private static final Check check = new Check("CallBoundsTest");
    private static final int UNKNOWN = DaysLent.UNKNOWN;
    private static final int BAD = DaysLent.BAD;
    private static final String BOOK = "P209P208P207P206P205P204D01011D12022D23033D34044D45055D50066";
    private static final int[] FAR = {Integer.MIN_VALUE, Integer.MIN_VALUE + 1, -256, -100, 128, 255, 256, 1000, 1 << 16,
        1 << 30, Integer.MAX_VALUE - 1, Integer.MAX_VALUE};

    public static void main(String[] args) {
        promise1NewObject();
        promise2Write();
        promise2WriteBytes();
        promise3Wipe();
        promise5Book();
        promises6To8What();
        promise9Ask();
        promise10Lend();
        promise12Heirs();
        promise16Falls();
        promises17To22();
        promise23Day();
        promise24Forget();
        promises26And27();
        eachPersonThereIs();
        eachSetThereIs();
        check.end();
    }

    /** The call on new objects: refused just if the number is below the least or above the most. */
    private static void range(String name, int least, int most, int refusal, IntFunction<Long> call) {
        for (int number = least - 20; number <= most + 20; number++) {
            boolean inside = number >= least && number <= most;
            boolean isRefused = call.apply(number) == refusal;
            check.due(name + ", " + number + ": refused", inside ? 0 : 1, isRefused ? 1 : 0);
        }
        for (int number : FAR) {
            if (number < least || number > most) {
                check.due(name + ", " + number, refusal, call.apply(number));
            }
        }
    }

    private static DaysLent made() {
        return Books.of(BOOK);
    }

    /** "Nobody." */
    private static void promise1NewObject() {
        DaysLent x = new DaysLent();
        for (int what = 0; what <= 9; what++) {
            check.due("about(" + what + ")", 0, x.about(what));
        }
        for (int person = -1; person <= 6; person++) {
            check.due("person " + person, UNKNOWN, x.person(person, 0));
        }
        check.due("no debt", UNKNOWN, x.debt(0, 0));
        check.due("no fault in nothing", DaysLent.NONE, x.fault());
        check.due("no act", DaysLent.LATE, x.undo());
        check.due("nothing kept", DaysLent.LATE, x.again(0));
        check.due("nothing kept", DaysLent.LATE, x.again(1));
        check.due("nobody may be kept", 0, x.keep(1));
        check.due("nobody gone on from", 0, x.again(1));
        check.due("a week", 0, x.week());
        check.due("a jubilee", 0, x.jubilee());
        check.due("two acts", 2, x.about(3));
        check.due("a book of an empty text", 0, x.book());
        check.due("no acts", 0, x.about(3));
        check.due("what was kept is gone", DaysLent.LATE, x.again(1));
    }

    /** "n bytes (1 .. 8) .. how long it is. BAD" */
    private static void promise2Write() {
        range("write", 1, 8, BAD, n -> (long) made().write(n, 0));
        for (int n = 1; n <= 8; n++) {
            DaysLent x = new DaysLent();
            for (int times = 1; times * n <= 80; times++) {
                check.due("write(" + n + ")", times * n, x.write(n, -1));
            }
        }
    }

    /** "the lowest n, the highest of these first" */
    private static void promise2WriteBytes() {
        String text = "P123P456";
        for (int n = 1; n <= 8; n++) {
            for (long above : new long[] {0, -1, 0x7F7F7F7F7F7F7F7FL, 0x8080808080808080L}) {
                DaysLent x = new DaysLent();
                Books.write(x, text.substring(0, 8 - n));
                long high = n == 8 ? 0 : above << 8 * n;
                check.due("write", 8, x.write(n, Books.packed(text.substring(8 - n)) | high));
                check.due("book", 2, x.book());
                check.due("mornings of 0", 12, x.person(0, 0));
                check.due("asks of 0", 3, x.person(0, 1));
                check.due("mornings of 1", 45, x.person(1, 0));
                check.due("asks of 1", 6, x.person(1, 1));
            }
        }
        for (long v : new long[] {0, -1, Long.MIN_VALUE, Long.MAX_VALUE}) {
            DaysLent x = new DaysLent();
            check.due("any eight bytes may come", 8, x.write(8, v));
            check.due("and are no book", 0, x.fault());
        }
    }

    /** "THE TEXT is empty: how long it was" */
    private static void promise3Wipe() {
        for (int length = 0; length <= 80; length++) {
            DaysLent x = new DaysLent();
            Books.write(x, "P".repeat(length));
            check.due("how long it was", length, x.wipe());
            check.due("empty", 0, x.about(9));
            check.due("no fault", DaysLent.NONE, x.fault());
            check.due("was empty", 0, x.wipe());
            check.due("written from its beginning", 4, x.write(4, Books.packed("P777")));
            check.due("a book of what came then", 1, x.book());
            check.due("mornings", 77, x.person(0, 0));
        }
    }

    /** "(all alive, nobody BROKEN, no ACTS; what was kept is gone; TAKEN, SEEN stay): how many PEOPLE" */
    private static void promise5Book() {
        DaysLent x = Books.of("P000P000P000D01011");
        x.week();
        x.heirs(2, 3);
        x.keep(0);
        x.keep(1);
        x.day(2, 0, true);
        x.day(2, 0, false);
        check.due("broken", 2, x.about(5));
        check.due("alive", 3, x.about(4));
        check.due("the same text", 3, x.book());
        check.due("nobody broken", 0, x.about(5));
        check.due("all alive", 7, x.about(4));
        check.due("no acts", 0, x.about(3));
        check.due("no undo", DaysLent.LATE, x.undo());
        check.due("slot 0", DaysLent.LATE, x.again(0));
        check.due("slot 1", DaysLent.LATE, x.again(1));
        check.due("days", 2, x.about(8));
        check.due("a cheat still", 4, x.cheats());
        check.due("the text stays", 18, x.about(9));
        check.due("the debt is there again", 1, x.debt(0, 2));
    }

    private static void promises6To8What() {
        range("about", 0, 9, BAD, what -> (long) made().about(what));
        range("person", 0, 5, UNKNOWN, person -> (long) made().person(person, 0));
        range("person, what", 0, 6, BAD, what -> (long) made().person(5, what));
        range("debt", 0, 5, UNKNOWN, debt -> (long) made().debt(debt, 0));
        range("debt, what", 0, 3, BAD, what -> (long) made().debt(5, what));
        DaysLent x = made();
        int[] person = {20, 4, 1, 0, 5, 6, 10001};
        for (int what = 0; what <= 6; what++) {
            check.due("person(5, " + what + ")", person[what], x.person(5, what));
        }
        int[] debt = {5, 0, 6, 6};
        for (int what = 0; what <= 3; what++) {
            check.due("debt(5, " + what + ")", debt[what], x.debt(5, what));
        }
        int[] about = {6, 6, 0, 0, 63, 0, 120, 21, 0, 60};
        for (int what = 0; what <= 9; what++) {
            check.due("about(" + what + ")", about[what], x.about(what));
        }
    }

    /** "What a PERSON asks is otherwise: what it was. .. BAD: r (0 .. 9)" */
    private static void promise9Ask() {
        range("ask", 0, 5, UNKNOWN, person -> (long) made().ask(person, 1));
        range("ask, r", 0, 9, BAD, r -> (long) made().ask(5, r));
        for (int r = 0; r <= 9; r++) {
            DaysLent x = made();
            check.due("what it was", 7, x.ask(2, r));
            check.due("what it is", r, x.person(2, 1));
            check.due("others", 8, x.person(1, 1));
            check.due("others", 6, x.person(3, 1));
            check.due("no act", 0, x.about(3));
            check.due("what was lent is asked by it", 3 + 2 * r, x.lend(2, 1, 3, 1));
        }
        DaysLent dead = made();
        dead.heirs(5, 1);
        check.due("a dead one", 4, dead.ask(5, 9));
        check.due("a dead one", 9, dead.person(5, 1));
        DaysLent debt = Books.of("P209P000");
        debt.lend(0, 1, 2, 1);
        debt.ask(0, 0);
        check.due("what is owed stays", 11, debt.debt(0, 2));
    }

    /** "UNKNOWN: i, j; BAD: both are one, a, weeks (1 .. 9)" */
    private static void promise10Lend() {
        range("lend, i", 0, 5, UNKNOWN, i -> (long) made().lend(i, i == 0 ? 1 : 0, 1, 1));
        range("lend, j", 0, 5, UNKNOWN, j -> (long) made().lend(j == 0 ? 1 : 0, j, 1, 1));
        range("lend, a", 1, 99, BAD, a -> (long) made().lend(0, 1, a, 1));
        range("lend, weeks", 1, 9, BAD, weeks -> (long) made().lend(0, 1, 1, weeks));
        for (int i = 0; i < 6; i++) {
            for (int j = 0; j < 6; j++) {
                int want = i == j ? BAD : 2 + 9 - i;
                check.due("lend(" + i + ", " + j + ", 2, 1)", want, made().lend(i, j, 2, 1));
            }
        }
    }

    /** "UNKNOWN: person; BAD: heirs (bits of PEOPLE, one at least, not itself)" */
    private static void promise12Heirs() {
        range("heirs", 0, 5, UNKNOWN, person -> (long) made().heirs(person, person == 0 ? 2 : 1));
        for (int people = 1; people <= 6; people++) {
            for (int person = 0; person < people; person++) {
                for (int heirs = -70; heirs <= 130; heirs++) {
                    boolean bad = heirs < 1 || heirs >= 1 << people || (heirs & 1 << person) != 0;
                    DaysLent x = Books.of(BOOK.substring(0, 4 * people));
                    check.due("heirs(" + person + ", " + heirs + ")", bad ? BAD : 0, x.heirs(person, heirs));
                    check.due("alive", bad ? people : people - 1, Integer.bitCount(x.about(4)));
                }
            }
        }
    }

    /** "BAD: people (bits of PEOPLE)" */
    private static void promise16Falls() {
        for (int people = 0; people <= 6; people++) {
            int most = (1 << people) - 1;
            int told = people;
            range("falls", 0, most, BAD, set -> (long) Books.of(BOOK.substring(0, 4 * told)).falls(set));
        }
    }

    private static void promises17To22() {
        range("ring", 0, 5, UNKNOWN, person -> (long) made().ring(person));
        range("room", 0, 5, UNKNOWN, person -> (long) made().room(person));
        range("wish", 0, 5, UNKNOWN, person -> (long) made().wish(person, 1));
        range("wish, a", 1, 99, BAD, a -> (long) made().wish(0, a));
        range("wishBy", 0, 5, UNKNOWN, person -> (long) made().wishBy(person, 1, 0));
        range("wishBy, other", 0, 5, UNKNOWN, other -> (long) made().wishBy(0, 1, other));
        range("wishBy, a", 1, 99, BAD, a -> (long) made().wishBy(0, a, 1));
        for (boolean upper : new boolean[] {false, true}) {
            range("run", 0, 5, UNKNOWN, person -> made().run(person, 1, upper));
            range("run, x", 0, 10, BAD, tenths -> made().run(0, tenths, upper));
        }
        range("enough", 0, 5, UNKNOWN, person -> (long) made().enough(person, 1, 1));
        range("enough, x", 0, 10, BAD, tenths -> (long) made().enough(0, tenths, 1));
        range("enough, y", 0, 100, BAD, y -> (long) made().enough(0, 1, y));
    }

    private static void promise23Day() {
        for (boolean seen : new boolean[] {false, true}) {
            range("day", 0, 5, UNKNOWN, person -> (long) made().day(person, 1, seen));
            range("day, day", 0, 99, BAD, day -> (long) made().day(0, day, seen));
        }
    }

    /** "Nothing was TAKEN, nobody SEEN: how many there were" */
    private static void promise24Forget() {
        for (int days = 0; days <= 12; days++) {
            DaysLent x = made();
            for (int day = 0; day < days; day++) {
                x.day(day % 6, 0, day % 2 == 0);
            }
            check.due("how many there were", days, x.forget());
            check.due("none", 0, x.about(8));
            check.due("no cheats", 0, x.cheats());
            check.due("none were there", 0, x.forget());
            check.due("the first one again", 1, x.day(0, 0, false));
            check.due("what was told is not there", 0, x.cheats());
        }
    }

    /** "They are kept: how many DEBTS. UNKNOWN" and "They are as they were kept: how many DEBTS. UNKNOWN; LATE" */
    private static void promises26And27() {
        range("keep", 0, 1, UNKNOWN, slot -> (long) made().keep(slot));
        range("again", 0, 1, UNKNOWN, slot -> (long) made().again(slot));
        for (int kept = 0; kept <= 1; kept++) {
            DaysLent x = made();
            check.due("none were kept", DaysLent.LATE, x.again(kept));
            check.due("keep", 6, x.keep(kept));
            check.due("none were kept in the other one", DaysLent.LATE, x.again(1 - kept));
            x.week();
            check.due("five are left", 5, x.about(1));
            check.due("again", 6, x.again(kept));
            check.due("week", 0, x.about(2));
            check.due("none were kept in the other one", DaysLent.LATE, x.again(1 - kept));
        }
        for (int debts = 0; debts <= 12; debts++) {
            DaysLent x = Books.of("P990P000");
            for (int debt = 0; debt < debts; debt++) {
                x.lend(0, 1, 1, 9);
            }
            check.due("how many debts", debts, x.keep(0));
            x.jubilee();
            check.due("how many debts", debts, x.again(0));
            check.due("how many debts", debts, x.about(1));
        }
    }

    /** Behind the last one of them, however few there are, there is nobody. */
    private static void eachPersonThereIs() {
        for (int people = 0; people <= 6; people++) {
            DaysLent x = Books.of(BOOK.substring(0, 4 * people));
            for (int person = 0; person <= 6; person++) {
                int want = person < people ? 0 : 1;
                String name = person + " of " + people;
                check.due("person " + name, want, x.person(person, 0) == UNKNOWN ? 1 : 0);
                check.due("ask " + name, want, x.ask(person, 5) == UNKNOWN ? 1 : 0);
                check.due("ring " + name, want, x.ring(person) == UNKNOWN ? 1 : 0);
                check.due("room " + name, want, x.room(person) == UNKNOWN ? 1 : 0);
                check.due("wish " + name, want, x.wish(person, 1) == UNKNOWN ? 1 : 0);
                check.due("wishBy " + name, want, x.wishBy(person, 1, 0) == UNKNOWN ? 1 : 0);
                check.due("run " + name, want, x.run(person, 1, true) == UNKNOWN ? 1 : 0);
                check.due("enough " + name, want, x.enough(person, 1, 1) == UNKNOWN ? 1 : 0);
                check.due("day " + name, want, x.day(person, 1, true) == UNKNOWN ? 1 : 0);
                check.due("heirs " + name, want, x.heirs(person, 0) == UNKNOWN ? 1 : 0);
                check.due("lend " + name, want, x.lend(0, person, 0, 0) == UNKNOWN ? 1 : 0);
                check.due("lend " + name, want, x.lend(person, 0, 0, 0) == UNKNOWN ? 1 : 0);
            }
        }
    }

    private static void eachSetThereIs() {
        for (int people = 0; people <= 6; people++) {
            DaysLent x = Books.of(BOOK.substring(0, 4 * people));
            for (int bit = 0; bit < 32; bit++) {
                int want = bit < people ? 1 << bit : BAD;
                check.due("falls of bit " + bit + " of " + people, want, x.falls(1 << bit));
            }
        }
    }
}
