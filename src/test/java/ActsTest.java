/** Promises 10 to 14: lend, week, heirs, jubilee, undo. */
public final class ActsTest {
    private static final Check check = new Check("ActsTest");

    public static void main(String[] args) {
        promise10Lend();
        promise10LendMayNotBe();
        promise10LendRefusals();
        promise10LendFull();
        promise11WeekPays();
        promise11WeekBreaks();
        promise11Spring();
        promise12HeirsShare();
        promise12HeirsTakeDebts();
        promise12HeirsRefusals();
        promise13Jubilee();
        promise14Undo();
        promise14UndoOfEachKind();
        promise14TenActs();
        check.end();
    }

    private static void promise10Lend() {
        DaysLent x = Books.of("P302P051P009");
        check.due("even", 8, x.lend(0, 1, 4, 3));
        check.due("lender has", 26, x.person(0, 0));
        check.due("borrower has", 9, x.person(1, 0));
        check.due("one left over counts as two", 11, x.lend(0, 2, 5, 9));
        check.due("owed", 0, x.debt(1, 0));
        check.due("owes", 2, x.debt(1, 1));
        check.due("how much", 11, x.debt(1, 2));
        check.due("due", 9, x.debt(1, 3));
        x.week();
        check.due("one morning", 2, x.lend(1, 0, 1, 2));
        check.due("due from the week on", 3, x.debt(2, 3));
        check.due("all it has", 32, x.lend(2, 1, 5, 1));
        check.due("none left", 0, x.person(2, 0));
        check.due("acts", 5, x.about(3));
        check.due("debts", 4, x.about(1));
    }

    private static void promise10LendMayNotBe() {
        DaysLent x = Books.of("P990P000P500P000D01301");
        check.due("more than it has", DaysLent.LATE, x.lend(2, 1, 51, 1));
        check.due("over 80", DaysLent.LATE, x.lend(0, 1, 51, 1));
        check.due("80", 50, x.lend(0, 1, 50, 1));
        check.due("over 80 by one", DaysLent.LATE, x.lend(0, 1, 1, 1));
        check.due("nothing to lend", DaysLent.LATE, x.lend(3, 0, 1, 1));
        check.due("no act by what may not be", 1, x.about(3));

        DaysLent w = Books.of("P991P000");
        check.due("81 with what is asked", DaysLent.LATE, w.lend(0, 1, 54, 1));
        check.due("80 with what is asked", 80, w.lend(0, 1, 53, 1));

        DaysLent y = Books.of("P200P000P050D01051D02099");
        check.due("broken", 2, y.week());
        check.due("to a broken one", DaysLent.LATE, y.lend(0, 1, 1, 1));
        y.jubilee();
        check.due("after a jubilee", 1, y.lend(0, 1, 1, 1));
        y.heirs(2, 1);
        check.due("to a dead one", DaysLent.LATE, y.lend(0, 2, 1, 1));
        check.due("by a dead one", DaysLent.LATE, y.lend(2, 0, 1, 1));
        promise10LendByBroken();
    }

    private static void promise10LendByBroken() {
        DaysLent x = Books.of("P050P000P100D10091D02032");
        check.due("broken", 1, x.week());
        check.due("paid to it all the same", 0, x.week());
        check.due("to a broken one", DaysLent.LATE, x.lend(1, 0, 1, 1));
        check.due("by a broken one that has some", 3, x.lend(0, 1, 3, 1));
        check.due("has", 8, x.person(1, 0));
    }

    private static void promise10LendRefusals() {
        DaysLent x = Books.of("P990P990");
        String before = Books.seen(x);
        check.due("unknown i", DaysLent.UNKNOWN, x.lend(2, 0, 0, 0));
        check.due("unknown i", DaysLent.UNKNOWN, x.lend(-1, 0, 1, 1));
        check.due("unknown j", DaysLent.UNKNOWN, x.lend(0, 2, 1, 1));
        check.due("unknown j", DaysLent.UNKNOWN, x.lend(0, -1, 1, 1));
        check.due("unknown, and both are one", DaysLent.UNKNOWN, x.lend(2, 2, 1, 1));
        check.due("both are one", DaysLent.BAD, x.lend(1, 1, 1, 1));
        check.due("none", DaysLent.BAD, x.lend(0, 1, 0, 1));
        check.due("less than none", DaysLent.BAD, x.lend(0, 1, -1, 1));
        check.due("100", DaysLent.BAD, x.lend(0, 1, 100, 1));
        check.due("no weeks", DaysLent.BAD, x.lend(0, 1, 1, 0));
        check.due("ten weeks", DaysLent.BAD, x.lend(0, 1, 1, 10));
        check.due("99 are too many to owe, but not BAD", DaysLent.LATE, x.lend(0, 1, 99, 9));
        check.isTrue("nothing changed", before.equals(Books.seen(x)));
    }

    private static void promise10LendFull() {
        DaysLent x = Books.of("P990P990" + "D01011".repeat(8));
        for (int i = 0; i < 4; i++) {
            check.due("lend", 1, x.lend(0, 1, 1, 9));
        }
        check.due("12 debts", 12, x.about(1));
        String before = Books.seen(x);
        check.due("a 13th", DaysLent.FULL, x.lend(0, 1, 1, 1));
        check.due("LATE is told ahead of FULL", DaysLent.LATE, x.lend(0, 1, 90, 1));
        check.due("BAD is told ahead of FULL", DaysLent.BAD, x.lend(0, 1, 100, 1));
        check.isTrue("nothing changed", before.equals(Books.seen(x)));
        x.week();
        check.due("4 debts", 4, x.about(1));
        check.due("room again", 1, x.lend(0, 1, 1, 1));
    }

    private static void promise11WeekPays() {
        DaysLent x = Books.of("P100P050P000D01052D12031D20041D02072");
        check.due("who is broken: 2 pays ahead of being paid", 4, x.week());
        check.due("the week", 1, x.about(2));
        check.due("0 has", 6, x.person(0, 0));
        check.due("1 has", 5, x.person(1, 0));
        check.due("2 has", 4, x.person(2, 0));
        check.due("two debts are left", 2, x.about(1));
        check.due("those behind are less", 7, x.debt(1, 2));
        check.due("the one ahead stays", 5, x.debt(0, 2));
        check.due("2 is broken already", 0, x.week());
        check.due("0 has", 15, x.person(0, 0));
        check.due("just enough is enough", 0, x.person(1, 3));
        check.due("2 gave all", 0, x.person(2, 0));
        check.due("no debts", 0, x.about(1));
        check.due("broken", 4, x.about(5));
    }

    private static void promise11WeekBreaks() {
        DaysLent x = Books.of("P020P000P000D10051D21051D02011");
        check.due("each gives on what came to it", 3, x.week());
        check.due("2 paid one on", 1, x.person(0, 0));
        check.due("1 has none", 0, x.person(1, 0));
        check.due("2 has", 1, x.person(2, 0));
        DaysLent y = Books.of("P020P000P000D02011D21051D10051");
        check.due("by number: all are broken", 7, y.week());
        check.due("1 has what 0 had", 2, y.person(1, 0));
        check.due("nobody left owing", 0, y.about(7));
    }

    private static void promise11Spring() {
        DaysLent x = Books.of("P990P200P210D01104D12109");
        x.week();
        x.week();
        x.week();
        check.due("all keep", 140, x.about(6));
        check.due("the fourth", 0, x.week());
        check.due("paid ahead of going bad", 20, x.person(0, 0));
        check.due("1 paid out of 20", 10, x.person(1, 0));
        check.due("21 go to 20", 20, x.person(2, 0));
        for (int week = 5; week < 8; week++) {
            x.week();
        }
        x.lend(0, 2, 15, 9);
        check.due("35", 35, x.person(2, 0));
        x.week();
        check.due("the eighth", 20, x.person(2, 0));
        check.due("week", 8, x.about(2));
    }

    private static void promise12HeirsShare() {
        DaysLent x = Books.of("P110P110P110P110");
        check.due("no debts are gone", 0, x.heirs(1, 13));
        check.due("the least has what is left over", 16, x.person(0, 0));
        check.due("the dead has none", 0, x.person(1, 0));
        check.due("an equal share", 14, x.person(2, 0));
        check.due("an equal share", 14, x.person(3, 0));
        check.due("alive", 13, x.about(4));
        check.due("one heir has all", 0, x.heirs(0, 8));
        check.due("all", 30, x.person(3, 0));
        check.due("no share", 14, x.person(2, 0));
        check.due("people there are", 4, x.about(0));
        check.due("acts", 2, x.about(3));
    }

    private static void promise12HeirsTakeDebts() {
        DaysLent x = Books.of("P110P110P110P110D01011D12022D21033D13044D31055D23066");
        check.due("those with the least heir are gone", 2, x.heirs(1, 12));
        check.due("four are left", 4, x.about(1));
        int[][] want = {{0, 2, 1, 1}, {2, 3, 4, 4}, {3, 2, 5, 5}, {2, 3, 6, 6}};
        for (int debt = 0; debt < 4; debt++) {
            for (int what = 0; what <= 3; what++) {
                check.due("debt(" + debt + ", " + what + ")", want[debt][what], x.debt(debt, what));
            }
        }
        check.due("the last two are left", 3, x.heirs(3, 4));
        check.due("one debt", 1, x.about(1));
        check.due("0 dies, and 2 owed it", 1, x.heirs(0, 4));
        check.due("alive", 4, x.about(4));
        check.due("2 has all", 44, x.person(2, 0));
    }

    private static void promise12HeirsRefusals() {
        DaysLent x = Books.of("P110P110P110");
        String before = Books.seen(x);
        check.due("unknown", DaysLent.UNKNOWN, x.heirs(3, 0));
        check.due("unknown", DaysLent.UNKNOWN, x.heirs(-1, 1));
        check.due("none", DaysLent.BAD, x.heirs(0, 0));
        check.due("itself", DaysLent.BAD, x.heirs(0, 1));
        check.due("itself too", DaysLent.BAD, x.heirs(0, 3));
        check.due("no such one", DaysLent.BAD, x.heirs(0, 8));
        check.due("no such one too", DaysLent.BAD, x.heirs(0, 10));
        check.due("less than nobody", DaysLent.BAD, x.heirs(0, -1));
        check.due("less than nobody", DaysLent.BAD, x.heirs(0, Integer.MIN_VALUE));
        check.isTrue("nothing changed", before.equals(Books.seen(x)));
        x.heirs(0, 2);
        check.due("dead", DaysLent.LATE, x.heirs(0, 2));
        check.due("dead, and BAD is told first", DaysLent.BAD, x.heirs(0, 0));
        check.due("one of them is dead", DaysLent.LATE, x.heirs(1, 5));
        check.due("alive ones", 0, x.heirs(1, 4));
        check.due("nobody else", DaysLent.BAD, x.heirs(2, 0));
        check.due("acts", 2, x.about(3));
    }

    private static void promise13Jubilee() {
        DaysLent x = Books.of("P110P000P110D01011D12022D21033");
        x.week();
        check.due("broken", 2, x.about(5));
        x.heirs(0, 4);
        check.due("debts gone", 2, x.jubilee());
        check.due("no debts", 0, x.about(1));
        check.due("nobody owes", 0, x.about(7));
        check.due("nobody broken", 0, x.about(5));
        check.due("the dead stay dead", 6, x.about(4));
        check.due("the week stays", 1, x.about(2));
        check.due("mornings stay", 22, x.about(6));
        check.due("again", 0, x.jubilee());
        check.due("acts", 4, x.about(3));
    }

    private static void promise14Undo() {
        DaysLent x = Books.of("P110P110");
        check.due("none", DaysLent.LATE, x.undo());
        x.lend(0, 1, 5, 2);
        x.ask(0, 7);
        x.day(0, 1, false);
        x.write(1, 'P');
        check.due("undo", 0, x.undo());
        check.due("what it asks is as it was", 0, x.person(0, 1));
        check.due("days are no part of it", 1, x.about(8));
        check.due("the text is no part of it", 9, x.about(9));
        check.due("none", DaysLent.LATE, x.undo());
        x.lend(0, 1, 50, 1);
        check.due("what was refused is no act", DaysLent.LATE, x.undo());
        x.week();
        x.keep(0);
        check.due("undo", 0, x.undo());
        check.due("slots are no part of it", 0, x.again(0));
        check.due("going on", 1, x.about(2));
        check.due("no acts behind it", DaysLent.LATE, x.undo());
    }

    private static void promise14UndoOfEachKind() {
        DaysLent x = Books.of("P301P051P302P000D01051D12102D30011");
        String[] before = new String[6];
        before[0] = Books.seen(x);
        check.due("lend", 8, x.lend(2, 1, 4, 3));
        before[1] = Books.seen(x);
        check.due("week", 0, x.week());
        before[2] = Books.seen(x);
        check.due("heirs", 2, x.heirs(1, 4));
        before[3] = Books.seen(x);
        x.jubilee();
        before[4] = Books.seen(x);
        x.week();
        for (int left = 4; left >= 0; left--) {
            check.due("undo", left, x.undo());
            check.isTrue("as it was, " + left, before[left].equals(Books.seen(x)));
        }
        check.due("none", DaysLent.LATE, x.undo());
    }

    private static void promise14TenActs() {
        DaysLent x = Books.of("P200");
        for (int week = 1; week <= 23; week++) {
            x.week();
            check.due("acts", Math.min(week, 10), x.about(3));
        }
        for (int left = 9; left >= 0; left--) {
            check.due("undo", left, x.undo());
            check.due("week", 13 + left, x.about(2));
        }
        check.due("the first ones are forgotten", DaysLent.LATE, x.undo());
        check.due("week", 13, x.about(2));
        x.week();
        x.week();
        check.due("undo", 1, x.undo());
        check.due("week", 14, x.about(2));
    }
}
