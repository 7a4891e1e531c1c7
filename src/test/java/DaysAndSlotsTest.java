/** Promises 23 to 27: day, forget, cheats, keep, again. */
public final class DaysAndSlotsTest {
    private static final Check check = new Check("DaysAndSlotsTest");

    public static void main(String[] args) {
        promise23Day();
        promise24Forget();
        promise25Cheats();
        promise25CheatsOfPeopleThereAre();
        promise26Keep();
        promise27Again();
        promise27AgainAndActs();
        check.end();
    }

    private static void promise23Day() {
        DaysLent x = Books.of("P000P000");
        check.due("unknown", DaysLent.UNKNOWN, x.day(2, 100, true));
        check.due("unknown", DaysLent.UNKNOWN, x.day(-1, 1, true));
        check.due("day", DaysLent.BAD, x.day(0, 100, true));
        check.due("day", DaysLent.BAD, x.day(0, -1, false));
        check.due("none came", 0, x.about(8));
        check.due("day 0", 1, x.day(0, 0, true));
        check.due("day 99", 2, x.day(1, 99, false));
        check.due("no act", 0, x.about(3));
        x.heirs(0, 2);
        check.due("of a dead one", 3, x.day(0, 1, false));
        for (int i = 4; i <= 12; i++) {
            check.due("one more", i, x.day(1, i, false));
        }
        check.due("full", DaysLent.FULL, x.day(1, 50, true));
        check.due("BAD is told ahead of FULL", DaysLent.BAD, x.day(1, 100, true));
        check.due("UNKNOWN is told ahead of FULL", DaysLent.UNKNOWN, x.day(2, 1, true));
        check.due("12", 12, x.about(8));
        check.due("nothing came", 0, x.cheats());
    }

    private static void promise24Forget() {
        DaysLent x = Books.of("P000P000");
        check.due("none", 0, x.forget());
        x.day(0, 1, true);
        x.day(0, 1, false);
        check.due("two", 2, x.forget());
        check.due("none", 0, x.about(8));
        check.due("no cheats", 0, x.cheats());
        check.due("room again", 1, x.day(0, 1, false));
        check.due("what was seen is forgotten", 0, x.cheats());
        check.due("one", 1, x.forget());
    }

    private static void promise25Cheats() {
        DaysLent x = Books.of("P000P000P000P000P000P000");
        check.due("nobody", 0, x.cheats());
        x.day(0, 5, false);
        x.day(0, 6, true);
        x.day(1, 5, true);
        check.due("other days, other people", 0, x.cheats());
        x.day(1, 5, true);
        check.due("seen twice is no cheat", 0, x.cheats());
        x.day(0, 5, false);
        check.due("taken twice", 1, x.cheats());
        x.day(5, 7, true);
        x.day(5, 7, false);
        check.due("seen, then taken", 33, x.cheats());
        x.day(2, 0, false);
        x.day(2, 0, true);
        check.due("taken, then seen", 37, x.cheats());
        x.heirs(2, 1);
        check.due("the dead are people", 37, x.cheats());
        x.undo();
        check.due("days are no acts", 37, x.cheats());
    }

    private static void promise25CheatsOfPeopleThereAre() {
        DaysLent x = Books.of("P000P000P000");
        x.day(1, 3, false);
        x.day(2, 3, false);
        x.day(2, 3, true);
        x.day(1, 3, true);
        check.due("both", 6, x.cheats());
        Books.rewrite(x, "P000P000");
        x.book();
        check.due("one", 2, x.cheats());
        x.wipe();
        x.book();
        check.due("nobody is there", 0, x.cheats());
        check.due("days stay", 4, x.about(8));
    }

    private static void promise26Keep() {
        DaysLent x = Books.of("P100P100P000D01051D12041");
        check.due("keep(2)", DaysLent.UNKNOWN, x.keep(2));
        check.due("keep(-1)", DaysLent.UNKNOWN, x.keep(-1));
        check.due("keep(0)", 2, x.keep(0));
        check.due("acts stay", 0, x.about(3));
        x.week();
        check.due("keep(1)", 0, x.keep(1));
        check.due("keep is no act", 1, x.about(3));
        check.due("the first one", 2, x.again(0));
        check.due("the second one", 0, x.again(1));
        check.due("over the first one", 0, x.keep(0));
        check.due("what was there is gone", 0, x.again(0));
        check.due("nobody kept", 0, new DaysLent().keep(0));
    }

    private static void promise27Again() {
        DaysLent x = Books.of("P101P102P003D01051D12042D20019");
        check.due("again(2)", DaysLent.UNKNOWN, x.again(2));
        check.due("again(-1)", DaysLent.UNKNOWN, x.again(-1));
        check.due("none kept", DaysLent.LATE, x.again(0));
        x.keep(1);
        check.due("none kept in the other one", DaysLent.LATE, x.again(0));
        String kept = Books.seen(x);
        x.ask(0, 9);
        x.week();
        x.week();
        x.heirs(2, 1);
        x.week();
        check.due("again", 3, x.again(1));
        check.isTrue("as it was", kept.equals(Books.seen(x)));
        x.jubilee();
        check.due("once more", 3, x.again(1));
        check.isTrue("as it was", kept.equals(Books.seen(x)));
        x.day(0, 1, true);
        x.write(1, 'P');
        check.due("and once more", 3, x.again(1));
        check.due("days are not kept", 1, x.about(8));
        check.due("the text is not kept", 31, x.about(9));
    }

    private static void promise27AgainAndActs() {
        DaysLent x = Books.of("P000P100D10051");
        check.due("broken", 1, x.week());
        x.keep(0);
        check.due("acts", 1, x.about(3));
        check.due("again", 0, x.again(0));
        check.due("no acts", 0, x.about(3));
        check.due("nothing to undo", DaysLent.LATE, x.undo());
        check.due("broken still", 1, x.about(5));
        check.due("week", 1, x.about(2));
        x.week();
        check.due("undo", 0, x.undo());
        check.due("week", 1, x.about(2));
        x.jubilee();
        check.due("LATE changes nothing", DaysLent.LATE, x.again(1));
        check.due("acts", 1, x.about(3));
    }
}
