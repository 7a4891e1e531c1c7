/** Promises 1 to 9: a new object, write, wipe, fault, book, about, person, debt, ask. */
public final class BookTest {
    private static final Check check = new Check("BookTest");
    private static final String SIX = "P100P200P300P400P500P600";

    public static void main(String[] args) {
        promise1NewObject();
        promise2Write();
        promise3Wipe();
        promise4FaultInPeople();
        promise4FaultInDebts();
        promise4FaultByLimits();
        promise5Book();
        promise5BookMadeAnew();
        promise6About();
        promise7Person();
        promise8Debt();
        promise9Ask();
        check.end();
    }

    private static void promise1NewObject() {
        DaysLent x = new DaysLent();
        for (int what = 0; what <= 9; what++) {
            check.due("new: about(" + what + ")", 0, x.about(what));
        }
        check.due("new: person(0, 0)", DaysLent.UNKNOWN, x.person(0, 0));
        check.due("new: debt(0, 0)", DaysLent.UNKNOWN, x.debt(0, 0));
        check.due("new: ask(0, 1)", DaysLent.UNKNOWN, x.ask(0, 1));
        check.due("new: undo()", DaysLent.LATE, x.undo());
        check.due("new: again(0)", DaysLent.LATE, x.again(0));
        check.due("new: again(1)", DaysLent.LATE, x.again(1));
        check.due("new: cheats()", 0, x.cheats());
        check.due("new: fewest()", 0, x.fewest());
        check.due("new: falls(0)", 0, x.falls(0));
        check.due("new: falls(1)", DaysLent.BAD, x.falls(1));
    }

    private static void promise2Write() {
        DaysLent x = new DaysLent();
        check.due("write(0)", DaysLent.BAD, x.write(0, 80));
        check.due("write(-1)", DaysLent.BAD, x.write(-1, 80));
        check.due("write(9)", DaysLent.BAD, x.write(9, 80));
        check.due("write(max)", DaysLent.BAD, x.write(Integer.MAX_VALUE, 80));
        check.due("nothing came", 0, x.about(9));
        check.due("write of 4", 4, x.write(4, Books.packed("P421")));
        check.due("book", 1, x.book());
        check.due("the highest byte came first", 42, x.person(0, 0));
        check.due("the lowest byte came last", 1, x.person(0, 1));
        x.wipe();
        check.due("only the lowest n", 1, x.write(1, Books.packed("xxxP")));
        check.due("and on", 4, x.write(3, Books.packed("Dyy079") | 0xFF00000000000000L));
        check.due("book", 1, x.book());
        check.due("the lowest came", 7, x.person(0, 0));
        x.wipe();
        check.due("eight at once", 8, x.write(8, Books.packed("P011P022")));
        check.due("book of eight", 2, x.book());
        writeUntilFull(x);
    }

    private static void writeUntilFull(DaysLent x) {
        x.wipe();
        for (int i = 1; i <= 9; i++) {
            check.due("eight more", 8 * i, x.write(8, 0));
        }
        check.due("79", 79, x.write(7, 0));
        check.due("two are too many", DaysLent.FULL, x.write(2, 0));
        check.due("eight are too many", DaysLent.FULL, x.write(8, 0));
        check.due("BAD is told ahead of FULL", DaysLent.BAD, x.write(9, 0));
        check.due("nothing came", 79, x.about(9));
        check.due("the 80th", 80, x.write(1, 0));
        check.due("no 81st", DaysLent.FULL, x.write(1, 0));
        check.due("80", 80, x.about(9));
    }

    private static void promise3Wipe() {
        DaysLent x = Books.of("P100P200D01055");
        check.due("wipe", 14, x.wipe());
        check.due("empty", 0, x.about(9));
        check.due("wipe again", 0, x.wipe());
        check.due("no fault in nothing", DaysLent.NONE, x.fault());
        check.due("the book stays", 2, x.about(0));
        check.due("its debt stays", 5, x.debt(0, 2));
    }

    private static void fault(String text, int want) {
        DaysLent x = new DaysLent();
        Books.write(x, text);
        check.due("fault of " + text, want, x.fault());
        check.due("length of " + text, text.length(), x.about(9));
        check.isTrue("a book, if there is no fault: " + text, (want == DaysLent.NONE) == (x.book() != DaysLent.LATE));
    }

    private static void promise4FaultInPeople() {
        fault("", DaysLent.NONE);
        fault("P", 1);
        fault("P9", 2);
        fault("P99", 3);
        fault("P000", DaysLent.NONE);
        fault("P999", DaysLent.NONE);
        fault("p000", 0);
        fault("Q000", 0);
        fault("0", 0);
        fault("P/00", 1);
        fault("P:00", 1);
        fault("P0/0", 2);
        fault("P0:0", 2);
        fault("P00/", 3);
        fault("P00:", 3);
        fault("P00P", 3);
        fault("P000 ", 4);
        fault("P000\u0000", 4);
        fault("P000\u00d0", 4);
        fault("P00\u00b0", 3);
        fault("P000x000", 4);
        fault("P000x00P", 4);
    }

    private static void promise4FaultInDebts() {
        fault("D", 0);
        fault("P000D", 4);
        fault("P000P000D", 9);
        fault("P000P000D0", 10);
        fault("P000P000D01", 11);
        fault("P000P000D010", 12);
        fault("P000P000D0101", 13);
        fault("P000P000D01011", DaysLent.NONE);
        fault("P000P000D01999", DaysLent.NONE);
        fault("P000P000D10101", DaysLent.NONE);
        fault("P000P000D20101", 9);
        fault("P000P000DP", 9);
        fault("P000P000D02", 10);
        fault("P000P000D00", 10);
        fault("P000P000D11", 10);
        fault("P000P000D01x", 11);
        fault("P000P000D0100", 12);
        fault("P000P000D0110", 13);
        fault("P000P000D01100", 13);
        fault("P000P000D0109/", 13);
        fault("P000P000D0109:", 13);
        fault("P000P000D01091D", 15);
        fault("P000P000D01091d", 14);
        fault("P000P000D01091P000D21017", DaysLent.NONE);
        fault("P000P000D21017P000", 9);
    }

    private static void promise4FaultByLimits() {
        fault(SIX, DaysLent.NONE);
        fault(SIX + "P", 24);
        fault(SIX + "D50011", DaysLent.NONE);
        fault(SIX + "D6", 25);
        fault(SIX + "D50011P", 30);
        String two = "P100P200";
        String eight = "D01011".repeat(8);
        fault(two + eight, DaysLent.NONE);
        fault(two + eight + "D", 56);
        fault(two + eight + "P000", DaysLent.NONE);
        fault(SIX + eight, DaysLent.NONE);
        fault(SIX + eight + "D", 72);
        fault(two + eight + "P000P000P000P000P", 72);
        // the longest book is 72 bytes, so what comes behind it is the fault
        fault("P100P200P300" + eight + "P000P000P000", DaysLent.NONE);
        fault("P100P200P300" + eight + "P000P000P000PPPPPPPP", 72);
        fault("P100P200P300" + eight + "P000P000P00", 71);
    }

    private static void promise5Book() {
        DaysLent x = new DaysLent();
        check.due("an empty book", 0, x.book());
        Books.write(x, "P421P073P998D01055D20998");
        check.due("book", 3, x.book());
        check.due("the text stays", 24, x.about(9));
        check.due("all alive", 7, x.about(4));
        check.due("mornings", 7, x.person(1, 0));
        check.due("asks", 3, x.person(1, 1));
        check.due("owed", 2, x.debt(1, 0));
        check.due("owes", 0, x.debt(1, 1));
        check.due("how much", 99, x.debt(1, 2));
        check.due("due", 8, x.debt(1, 3));
        String before = Books.seen(x);
        x.write(1, 'P');
        check.due("a fault", DaysLent.LATE, x.book());
        x.wipe();
        Books.write(x, "P421P073P998D01055D20998");
        check.isTrue("a refused book changes nothing", before.equals(Books.seen(x)));
    }

    private static void promise5BookMadeAnew() {
        DaysLent x = Books.of("P421P003P998D01055D01991");
        x.day(2, 7, false);
        x.day(2, 7, true);
        check.due("week", 2, x.week());
        x.heirs(0, 4);
        x.keep(0);
        x.keep(1);
        x.write(1, 'x');
        check.due("a fault", DaysLent.LATE, x.book());
        check.due("kept ones stay", 1, x.again(0));
        x.week();
        Books.rewrite(x, "P100P200");
        check.due("anew", 2, x.book());
        check.due("no debts", 0, x.about(1));
        check.due("the week", 0, x.about(2));
        check.due("no acts", 0, x.about(3));
        check.due("all alive", 3, x.about(4));
        check.due("nobody broken", 0, x.about(5));
        check.due("no undo", DaysLent.LATE, x.undo());
        check.due("what was kept in 0 is gone", DaysLent.LATE, x.again(0));
        check.due("what was kept in 1 is gone", DaysLent.LATE, x.again(1));
        check.due("days stay", 2, x.about(8));
        check.due("whom there is not is no cheat", 0, x.cheats());
        x.write(4, Books.packed("P300"));
        check.due("one more", 3, x.book());
        check.due("now there is a cheat", 4, x.cheats());
        x.wipe();
        check.due("nobody", 0, x.book());
        check.due("nobody is alive", 0, x.about(4));
    }

    private static void promise6About() {
        DaysLent x = Books.of("P101P202P033D01055D12107D20011");
        int[] want = {3, 3, 0, 0, 7, 0, 33, 16, 0, 30};
        for (int what = 0; what <= 9; what++) {
            check.due("about(" + what + ")", want[what], x.about(what));
        }
        x.week();
        x.heirs(1, 4);
        x.day(0, 0, true);
        int[] then = {3, 1, 1, 2, 5, 0, 33, 5, 1, 30};
        for (int what = 0; what <= 9; what++) {
            check.due("then about(" + what + ")", then[what], x.about(what));
        }
        DaysLent y = Books.of("P000P000D01011");
        y.week();
        check.due("broken", 2, y.about(5));
        check.due("about(-1)", DaysLent.BAD, x.about(-1));
        check.due("about(10)", DaysLent.BAD, x.about(10));
        check.due("about(min)", DaysLent.BAD, x.about(Integer.MIN_VALUE));
    }

    private static void promise7Person() {
        DaysLent x = Books.of("P101P202P033D01055D12107D20991D02019");
        int[][] want = {{10, 1, 1, 0, 99, 6, 9907}, {20, 2, 1, 0, 5, 10, 10005}, {3, 3, 1, 0, 11, 99, 10088}};
        for (int person = 0; person < 3; person++) {
            for (int what = 0; what <= 6; what++) {
                check.due("person(" + person + ", " + what + ")", want[person][what], x.person(person, what));
            }
        }
        check.due("week", 1, x.week());
        check.due("broken", 1, x.person(0, 3));
        check.due("not broken", 0, x.person(2, 3));
        x.heirs(0, 2);
        check.due("dead", 0, x.person(0, 2));
        check.due("nothing left", 0, x.person(0, 0));
        check.due("asks still", 1, x.person(0, 1));
        check.due("broken still", 1, x.person(0, 3));
        check.due("net of the dead", 10000, x.person(0, 6));
        check.due("person(3, 0)", DaysLent.UNKNOWN, x.person(3, 0));
        check.due("person(-1, 0)", DaysLent.UNKNOWN, x.person(-1, 0));
        check.due("person(6, 9)", DaysLent.UNKNOWN, x.person(6, 9));
        check.due("person(0, 7)", DaysLent.BAD, x.person(0, 7));
        check.due("person(0, -1)", DaysLent.BAD, x.person(0, -1));
    }

    private static void promise8Debt() {
        DaysLent x = Books.of("P101P202P033D01055D12107");
        int[][] want = {{0, 1, 5, 5}, {1, 2, 10, 7}};
        for (int debt = 0; debt < 2; debt++) {
            for (int what = 0; what <= 3; what++) {
                check.due("debt(" + debt + ", " + what + ")", want[debt][what], x.debt(debt, what));
            }
        }
        check.due("debt(2, 0)", DaysLent.UNKNOWN, x.debt(2, 0));
        check.due("debt(-1, 0)", DaysLent.UNKNOWN, x.debt(-1, 0));
        check.due("debt(12, 9)", DaysLent.UNKNOWN, x.debt(12, 9));
        check.due("debt(0, 4)", DaysLent.BAD, x.debt(0, 4));
        check.due("debt(0, -1)", DaysLent.BAD, x.debt(0, -1));
        x.week();
        check.due("lend", 2, x.lend(0, 2, 1, 9));
        check.due("due from this week on", 10, x.debt(2, 3));
    }

    private static void promise9Ask() {
        DaysLent x = Books.of("P101P202");
        check.due("ask", 2, x.ask(1, 9));
        check.due("asks", 9, x.person(1, 1));
        check.due("the other one asks", 1, x.person(0, 1));
        check.due("ask", 9, x.ask(1, 0));
        check.due("ask(1, 10)", DaysLent.BAD, x.ask(1, 10));
        check.due("ask(1, -1)", DaysLent.BAD, x.ask(1, -1));
        check.due("ask(2, 10)", DaysLent.UNKNOWN, x.ask(2, 10));
        check.due("ask(-1, 1)", DaysLent.UNKNOWN, x.ask(-1, 1));
        check.due("asks", 0, x.person(1, 1));
        check.due("no act", 0, x.about(3));
        check.due("lend without asking", 7, x.lend(1, 0, 7, 1));
    }
}
