/** Promises 19 to 22: wish, wishBy, run, enough. */
public final class WishesTest {
    private static final Check check = new Check("WishesTest");

    public static void main(String[] args) {
        promise19Wish();
        promise19WishOdd();
        promise19WishRefusals();
        promise20WishBy();
        promise20WishByLikeOnes();
        promise20WishByRefusals();
        promise21Run();
        promise21RunByCreditor();
        promise21RunRefusals();
        promise22Enough();
        promise22EnoughRefusals();
        check.end();
    }

    private static void promise19Wish() {
        DaysLent x = Books.of("P101P203P050P990");
        check.due("all free", 0, x.wish(0, 99));
        check.due("none of its own", 5, x.wish(3, 15));
        check.due("with the dearest", 20, x.wish(3, 25));
        check.due("all", 35, x.wish(3, 35));
        check.due("more than all", DaysLent.NONE, x.wish(3, 36));
        check.due("no act", 0, x.about(3));
        check.due("nothing lent", 134, x.about(6));
        DaysLent alone = Books.of("P990");
        check.due("nobody else", DaysLent.NONE, alone.wish(0, 1));
        DaysLent dead = Books.of("P101P000P203");
        dead.heirs(0, 2);
        check.due("the dead have none", 0, dead.wish(2, 10));
        check.due("the dead lend none", DaysLent.NONE, dead.wish(2, 11));
        DaysLent owing = Books.of("P500P990D01991D01992");
        check.due("how much it owes is not looked at", 0, owing.wish(1, 50));
        owing.week();
        owing.week();
        check.due("it is broken", 2, owing.about(5));
        check.due("nor is that", 0, owing.wish(1, 99));
        DaysLent much = Books.of("P990P990P000");
        much.heirs(0, 2);
        check.due("one has 198", 0, much.wish(2, 99));
    }

    private static void promise19WishOdd() {
        DaysLent x = Books.of("P032P032P000");
        check.due("one", 2, x.wish(2, 1));
        check.due("two by one", 2, x.wish(2, 2));
        check.due("3", 4, x.wish(2, 3));
        check.due("two and two", 4, x.wish(2, 4));
        check.due("three and two", 6, x.wish(2, 5));
        check.due("three and three", 8, x.wish(2, 6));
        // a cheap one's odd morning is dearer than it looks
        DaysLent y = Books.of("P034P105P000");
        check.due("two by 0, two by 1", 9, y.wish(2, 4));
        check.due("three by 0", 8, y.wish(2, 3));
        check.due("three by 0, one by 1 is not cheaper", 14, y.wish(2, 6));
        check.due("five: three and two", 13, y.wish(2, 5));
    }

    private static void promise19WishRefusals() {
        DaysLent x = Books.of("P101P203P000");
        check.due("unknown", DaysLent.UNKNOWN, x.wish(3, 0));
        check.due("unknown", DaysLent.UNKNOWN, x.wish(-1, 1));
        check.due("none", DaysLent.BAD, x.wish(0, 0));
        check.due("less", DaysLent.BAD, x.wish(0, -5));
        check.due("100", DaysLent.BAD, x.wish(0, 100));
        check.due("99", DaysLent.NONE, x.wish(0, 99));
        x.heirs(2, 1);
        check.due("dead", DaysLent.LATE, x.wish(2, 1));
        check.due("dead and BAD", DaysLent.BAD, x.wish(2, 100));
    }

    private static void by(DaysLent x, int person, int a, int... want) {
        for (int other = 0; other < want.length; other++) {
            check.due("wishBy(" + person + ", " + a + ", " + other + ")", want[other], x.wishBy(person, a, other));
        }
    }

    private static void promise20WishBy() {
        DaysLent x = Books.of("P101P203P050P990");
        by(x, 3, 5, 0, 0, 5, 0);
        by(x, 3, 6, 1, 0, 5, 0);
        by(x, 3, 15, 10, 0, 5, 0);
        // 1 asks no more for two than for one, and then 0 lends fewer
        by(x, 3, 16, 9, 2, 5, 0);
        by(x, 3, 35, 10, 20, 5, 0);
        by(x, 3, 36, -9, -9, -9, -9);
        by(x, 0, 99, 0, 0, 0, 99);
        DaysLent y = Books.of("P034P105P000");
        by(y, 2, 4, 2, 2, 0);
        by(y, 2, 5, 3, 2, 0);
        by(y, 2, 6, 2, 4, 0);
        by(y, 2, 13, 3, 10, 0);
        DaysLent dead = Books.of("P101P000P203P000");
        dead.heirs(0, 2);
        by(dead, 3, 12, 0, 10, 2, 0);
    }

    private static void promise20WishByLikeOnes() {
        DaysLent free = Books.of("P500P500P500P000");
        by(free, 3, 30, 0, 0, 30, 0);
        by(free, 3, 80, 0, 30, 50, 0);
        by(free, 3, 99, 0, 49, 50, 0);
        by(free, 2, 51, 1, 50, 0, 0);
        DaysLent like = Books.of("P052P052P052P000");
        by(like, 3, 4, 0, 0, 4, 0);
        by(like, 3, 5, 0, 0, 5, 0);
        by(like, 3, 6, 0, 2, 4, 0);
        by(like, 3, 7, 0, 2, 5, 0);
        by(like, 3, 9, 0, 4, 5, 0);
        by(like, 3, 10, 2, 4, 4, 0);
        by(like, 3, 15, 5, 5, 5, 0);
        // the morning that fills up a pair costs nothing more, and 0 is spared it
        DaysLent pair = Books.of("P091P091P000");
        by(pair, 2, 9, 0, 9, 0);
        by(pair, 2, 11, 2, 9, 0);
    }

    private static void promise20WishByRefusals() {
        DaysLent x = Books.of("P101P203P000");
        check.due("unknown person", DaysLent.UNKNOWN, x.wishBy(3, 1, 0));
        check.due("unknown person", DaysLent.UNKNOWN, x.wishBy(-1, 0, 0));
        check.due("unknown other", DaysLent.UNKNOWN, x.wishBy(0, 1, 3));
        check.due("unknown other", DaysLent.UNKNOWN, x.wishBy(0, 0, -1));
        check.due("none", DaysLent.BAD, x.wishBy(0, 0, 1));
        check.due("100", DaysLent.BAD, x.wishBy(0, 100, 1));
        check.due("itself lends none", 0, x.wishBy(0, 1, 0));
        x.heirs(2, 1);
        check.due("dead", DaysLent.LATE, x.wishBy(2, 1, 0));
        check.due("dead and unknown other", DaysLent.UNKNOWN, x.wishBy(2, 1, 5));
        check.due("dead and BAD", DaysLent.BAD, x.wishBy(2, 0, 1));
        check.due("a dead other lends none", 0, x.wishBy(1, 1, 2));
    }

    private static void chance(DaysLent x, int person, int tenths, long above, long below) {
        check.due("run(" + person + ", " + tenths + ", true)", above, x.run(person, tenths, true));
        check.due("run(" + person + ", " + tenths + ", false)", below, x.run(person, tenths, false));
    }

    private static void promise21Run() {
        DaysLent x = Books.of("P050P000P000P000D10051D20031D30021");
        chance(x, 0, 0, 1, 1);
        // more than 5 is asked just if 1 and another one ask
        chance(x, 0, 5, 5, 8);
        chance(x, 0, 3, 847, 1000);
        chance(x, 0, 10, 0, 1);
        chance(x, 0, 1, 981, 1000);
        chance(x, 1, 7, 1, 1);
        DaysLent none = Books.of("P000P000D10011");
        chance(none, 0, 10, 0, 1);
        chance(none, 0, 3, 7, 10);
        chance(none, 0, 4, 3, 5);
        chance(none, 0, 0, 1, 1);
        DaysLent five = Books.of("P000P000P000P000P000P000D10011D20011D30011D40011D50011");
        chance(five, 0, 1, 59049, 100000);
        chance(five, 0, 5, 1, 32);
        chance(five, 0, 9, 1, 100000);
        DaysLent four = Books.of("P040P000P000P000P000P000D10011D20011D30011D40011D50011");
        chance(four, 0, 9, 40951, 100000);
    }

    private static void promise21RunByCreditor() {
        // two debts to one are asked as one; what it is owed does not help
        DaysLent x = Books.of("P050P990D10031D10031D01501");
        chance(x, 0, 2, 4, 5);
        DaysLent y = Books.of("P060P990D10031D10031D01501");
        chance(y, 0, 2, 1, 1);
        y.heirs(0, 2);
        chance(y, 0, 2, 1, 1);
    }

    private static void promise21RunRefusals() {
        DaysLent x = Books.of("P050P000D10031");
        check.due("unknown", DaysLent.UNKNOWN, x.run(2, 11, true));
        check.due("unknown", DaysLent.UNKNOWN, x.run(-1, 1, false));
        check.due("x", DaysLent.BAD, x.run(0, 11, true));
        check.due("x", DaysLent.BAD, x.run(0, -1, false));
    }

    private static void enough(DaysLent x, int person, int tenths, int... hundredthsThenWant) {
        for (int i = 0; i + 1 < hundredthsThenWant.length; i += 2) {
            int y = hundredthsThenWant[i];
            check.due("enough(" + person + ", " + tenths + ", " + y + ")", hundredthsThenWant[i + 1],
                    x.enough(person, tenths, y));
        }
    }

    private static void promise22Enough() {
        DaysLent x = Books.of("P990P000P000P000D10051D20031D30021");
        enough(x, 0, 0, 0, 0, 100, 0);
        // 0: 1/8, 2: 2/8, 3: 3/8, 5: 5/8, 7: 6/8, 8: 7/8, 10: 8/8
        enough(x, 0, 5, 0, 0, 12, 0, 13, 2, 25, 2, 26, 3, 37, 3, 38, 5, 62, 5);
        enough(x, 0, 5, 63, 7, 75, 7, 76, 8, 87, 8, 88, 10, 100, 10);
        enough(x, 0, 10, 0, 0, 1, 10, 100, 10);
        enough(x, 1, 10, 0, 0, 100, 0);
        // 10 has a chance of 1 in 1000 to be asked; y cannot tell it from 100 but at 100
        enough(x, 0, 1, 99, 7, 100, 10);
        DaysLent two = Books.of("P000P000D10301D10401");
        enough(two, 0, 3, 0, 0, 70, 0, 71, 70, 100, 70);
        DaysLent much = Books.of("P000P000P000P000P000P000D10991D20991D30991D40991D50991D10991D20991D30991");
        enough(much, 0, 10, 0, 0, 1, 792, 100, 792);
        enough(much, 0, 9, 100, 792);
        enough(much, 0, 5, 3, 0, 4, 99);
    }

    private static void promise22EnoughRefusals() {
        DaysLent x = Books.of("P050P000D10031");
        check.due("unknown", DaysLent.UNKNOWN, x.enough(2, 11, 0));
        check.due("unknown", DaysLent.UNKNOWN, x.enough(-1, 1, 1));
        check.due("x", DaysLent.BAD, x.enough(0, 11, 0));
        check.due("x", DaysLent.BAD, x.enough(0, -1, 0));
        check.due("y", DaysLent.BAD, x.enough(0, 0, 101));
        check.due("y", DaysLent.BAD, x.enough(0, 0, -1));
    }
}
