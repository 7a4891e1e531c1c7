/**
 * The bounds that the document's 'Terms', parts 2 to 4, name: a method for each sentence, which stands above it, on
 * both sides of the bound.
 */
public final class TermsReckonedTest {
    private static final Check check = new Check("TermsReckonedTest");
    private static final int NONE = DaysLent.NONE;
    private static final String SIX = "P000P000P000P000P000P000";

    public static void main(String[] args) {
        net();
        fewestFromNoneToFive();
        fewestByNetsAlone();
        fallsIfItIsLess();
        fallsCountsWhatPayersOweOnly();
        fallsTheGreatestSet();
        fallsOfTwelveDebts();
        wishOfOneToNinetyNine();
        wishNoMoreThanTheyHave();
        wishOfOthersThatAreAlive();
        wishWithLeastAsked();
        wishOfLikeOnes();
        wishLooksAtNoDebts();
        runByTenths();
        runIfMorningsAreEnough();
        runByEachOtherOne();
        runOfAllThatThereAre();
        enoughByHundredths();
        ringFromTwoToSix();
        ringNoPersonTwice();
        roomOfTheLeast();
        roomComesFirstByNumber();
        daysFromNoneToTwelve();
        cheatsOfADay();
        cheatsOfPeopleThereAre();
        slotsKeep();
        slotsKeepNoActs();
        fractionsInLeastTerms();
        check.end();
    }

    // ---- part 2: settled

    /** "NET of a PERSON: what it is owed less what it owes" (told, and 10000) */
    private static void net() {
        check.due("nothing", 10000, Books.of("P990").person(0, 6));
        DaysLent x = Books.of("P000P000" + "D01991".repeat(8));
        check.due("the most one can be owed by a book", 10792, x.person(0, 6));
        check.due("the most one can owe by a book", 9208, x.person(1, 6));
        DaysLent y = Books.of("P000P000P000D01051D10081D20011");
        check.due("4 less", 9996, y.person(0, 6));
        check.due("3 more", 10003, y.person(1, 6));
        check.due("1 more", 10001, y.person(2, 6));
        DaysLent twelve = Books.of("P990P990" + "D01011".repeat(8));
        for (int i = 0; i < 4; i++) {
            twelve.lend(1, 0, 20, 9);
        }
        check.due("all of twelve count", 10000 + 8 - 80, twelve.person(0, 6));
        check.due("all of twelve count", 10000 - 8 + 80, twelve.person(1, 6));
    }

    private static void fewest(int want, String book) {
        check.due("fewest of " + book, want, Books.of(book).fewest());
    }

    /** "FEWEST: the least number of payments": none with no nets, five with six people at most */
    private static void fewestFromNoneToFive() {
        fewest(0, "");
        fewest(0, "P990");
        fewest(0, SIX);
        fewest(1, SIX + "D50011");
        fewest(2, SIX + "D50011D40011");
        fewest(3, SIX + "D50011D40011D30011");
        fewest(4, SIX + "D50011D40011D30011D20011");
        fewest(5, SIX + "D50011D40011D30011D20011D10011");
        fewest(5, SIX + "D01991D12501D23251D34121D45061");
        fewest(1, SIX + "D01991D12991D23991D34991D45991");
        fewest(0, SIX + "D01991D12991D23991D34991D45991D50991");
        // three pairs whose nets meet, though nobody owes the one of its pair
        fewest(3, SIX + "D03011D14021D25031");
        fewest(3, SIX + "D04011D15011D12011D25021D53021");
        // two threes
        fewest(4, SIX + "D02011D12021D35041D45051");
        // two nets less or more by one: no group of them
        fewest(5, SIX + "D02031D12011D15021D35081D45161");
    }

    /** "each from one to another one of any size, by which all DEBTS are settled at once by NETS alone" */
    private static void fewestByNetsAlone() {
        fewest(0, "P000P000" + "D01101D10101");
        fewest(1, "P000P000" + "D01101D10091");
        fewest(1, "P000P000P000D01101D12101");
        fewest(1, "P000P000P000D01101D12101D20011");
        fewest(2, "P000P000P000D01101D12091");
        DaysLent x = Books.of("P990P000P000");
        for (int i = 0; i < 12; i++) {
            x.lend(0, 1 + i % 2, 1, 9);
        }
        check.due("of twelve debts two payments", 2, x.fewest());
        x.heirs(2, 2);
        check.due("one", 1, x.fewest());
        x.jubilee();
        check.due("none", 0, x.fewest());
    }

    /** "one pays, if its MORNINGS and what others that pay owe it are no less than what it owes" */
    private static void fallsIfItIsLess() {
        for (int has = 0; has <= 12; has++) {
            for (int owes = 1; owes <= 12; owes++) {
                DaysLent x = Books.of(String.format("P000P%02d0D01%02d9", has, owes));
                check.due(has + " for " + owes, has < owes ? 2 : 0, x.falls(0));
                DaysLent y = Books.of(String.format("P000P000P500D01%02d9D12%02d9", owes, has + 1));
                check.due("is owed " + (has + 1) + " for " + owes, has + 1 < owes ? 2 : 0, y.falls(0));
                check.due("by one that falls", 6, y.falls(4));
            }
        }
        check.due("some of both", 0, Books.of("P000P030P500D01059D12029").falls(0));
        check.due("one less", 2, Books.of("P000P020P500D01059D12029").falls(0));
        check.due("one less", 2, Books.of("P000P030P500D01059D12019").falls(0));
        check.due("when it is due is not looked at", 2, Books.of("P000P090P000D01051D01059").falls(0));
        check.due("when it is due is not looked at", 0, Books.of("P000P100P000D01051D01059").falls(0));
    }

    /** "the told ones pay nothing; all others pay all they owe or nothing" */
    private static void fallsCountsWhatPayersOweOnly() {
        // 1 has 9 of 10 and pays nothing of them, so 0 lacks what it would need
        DaysLent x = Books.of("P000P090P000D01109D20019");
        check.due("1 pays nothing, so 0 cannot pay 1", 3, x.falls(0));
        DaysLent y = Books.of("P000P100P000D01109D20019");
        check.due("1 pays all", 0, y.falls(0));
        check.due("1 is told", 3, y.falls(2));
        check.due("2 is told, that owes nothing", 4, y.falls(4));
        check.due("0 and 2 are told", 5, y.falls(5));
        check.due("the first and the last of six", 33, Books.of(SIX).falls(33));
        check.due("all of six", 63, Books.of(SIX).falls(63));
        check.due("none of six", 0, Books.of(SIX).falls(0));
    }

    /** "Those that pay are as many as can be (the greatest set in which each can)" */
    private static void fallsTheGreatestSet() {
        DaysLent ring = Books.of(SIX + "D01991D12991D23991D34991D45991D50991");
        check.due("a ring in which nobody has any pays itself", 0, ring.falls(0));
        for (int person = 0; person < 6; person++) {
            check.due("one told one, and all fall", 63, ring.falls(1 << person));
        }
        DaysLent row = Books.of("P000P000P000P000P000P990D45011D34011D23011D12011D01011");
        check.due("the row stands by 5", 0, row.falls(0));
        check.due("the row falls from 5 to 1: 0 owes nothing", 62, row.falls(32));
        check.due("from 3 on", 14, row.falls(8));
        DaysLent back = Books.of("P990P000P000P000P000P000D10011D21011D32011D43011D54011");
        check.due("the row stands by 0", 0, back.falls(0));
        check.due("the row falls from 0 to 4: 5 owes nothing", 31, back.falls(1));
        // nobody is told: 0 lacks one, and by that 1, and by that 2, .., and 5 as the last one
        String lacks = "D10021D21021D32021D43021D54021D05011";
        check.due("all of six, one by the other", 63, Books.of(SIX + lacks).falls(0));
        check.due("0 has that one", 0, Books.of("P010" + SIX.substring(4) + lacks).falls(0));
        check.due("5 has what it owes", 31, Books.of(SIX.substring(4) + "P010" + lacks).falls(0));
        String lacksBack = "D45021D34021D23021D12021D01021D50011";
        check.due("all of six, the other way", 63, Books.of(SIX + lacksBack).falls(0));
        check.due("5 has that one", 0, Books.of(SIX.substring(4) + "P010" + lacksBack).falls(0));
        DaysLent two = Books.of("P000P000P000P000D01051D10051D23051D32061");
        check.due("one ring pays; in the other one 2 owes 6 and is owed 5", 12, two.falls(0));
    }

    private static void fallsOfTwelveDebts() {
        for (int has = 0; has <= 2; has++) {
            DaysLent x = Books.of("P990P0" + has + "0P000" + "D21011".repeat(2) + "D01011".repeat(6));
            for (int i = 0; i < 4; i++) {
                x.lend(0, 2, 1, 9);
            }
            check.due("twelve", 12, x.about(1));
            // 1 owes 8, and nobody owes it; 2 has what it owes
            check.due("the eight of 1", 2, x.falls(0));
            check.due("with 2", 6, x.falls(4));
        }
        DaysLent just = Books.of("P990P080P000" + "D21011".repeat(2) + "D01011".repeat(6));
        for (int i = 0; i < 4; i++) {
            just.lend(0, 2, 1, 9);
        }
        check.due("just enough", 0, just.falls(0));
    }

    // ---- part 2: wishes

    /** "A WISH of a PERSON for a MORNINGS (1 .. 99)" */
    private static void wishOfOneToNinetyNine() {
        DaysLent x = Books.of("P991P000");
        for (int a = -1; a <= 101; a++) {
            boolean bad = a < 1 || a > 99;
            check.due("wish(1, " + a + ")", bad ? DaysLent.BAD : (a + 1) / 2, x.wish(1, a));
            check.due("wishBy(1, " + a + ", 0)", bad ? DaysLent.BAD : a, x.wishBy(1, a, 0));
        }
    }

    /** "(none, or no more than they have), a together .. NONE: there is none" */
    private static void wishNoMoreThanTheyHave() {
        for (int has = 0; has <= 98; has++) {
            DaysLent one = Books.of(String.format("P%02d0P990", has));
            check.due("one more than it has", NONE, one.wish(1, has + 1));
            check.due("one more than it has", NONE, one.wishBy(1, has + 1, 0));
            if (has > 0) {
                check.due("all it has", 0, one.wish(1, has));
                check.due("all it has", has, one.wishBy(1, has, 0));
            }
        }
        DaysLent five = Books.of("P101P092P083P074P065P990");
        check.due("all of five", 5 + 10 + 12 + 16 + 15, five.wish(5, 40));
        check.due("one more", NONE, five.wish(5, 41));
        int[] all = {10, 9, 8, 7, 6, 0};
        for (int other = 0; other < 6; other++) {
            check.due("all of " + other, all[other], five.wishBy(5, 40, other));
            check.due("one more", NONE, five.wishBy(5, 41, other));
        }
        DaysLent first = Books.of("P990P101P092P083P074P065");
        check.due("all of the last five", 5 + 10 + 12 + 16 + 15, first.wish(0, 40));
        check.due("one more", NONE, first.wish(0, 41));
        check.due("the last one", 6, first.wishBy(0, 40, 5));
        check.due("nobody has any", NONE, Books.of(SIX).wish(3, 1));
        check.due("nobody else is there", NONE, Books.of("P990").wish(0, 1));
        check.due("nobody else is there", NONE, Books.of("P990").wishBy(0, 1, 0));
    }

    /** "others that are alive" */
    private static void wishOfOthersThatAreAlive() {
        DaysLent x = Books.of("P050P301P000");
        check.due("with both", 0, x.wish(2, 5));
        x.heirs(0, 4);
        check.due("the wisher's own do not help: 1 lends", 3, x.wish(2, 5));
        check.due("the dead one lends none", 0, x.wishBy(2, 5, 0));
        check.due("1 lends all", 5, x.wishBy(2, 5, 1));
        check.due("itself none", 0, x.wishBy(2, 5, 2));
        check.due("of a dead one", DaysLent.LATE, x.wish(0, 5));
        check.due("of a dead one", DaysLent.LATE, x.wishBy(0, 5, 1));
        x.undo();
        check.due("alive again", NONE, x.wish(0, 31));
        check.due("alive again", 0, x.wish(1, 5));
        DaysLent heir = Books.of("P990P990P000");
        heir.heirs(0, 2);
        check.due("one that has 198", 0, heir.wish(2, 99));
        check.due("one that has 198", 99, heir.wishBy(2, 99, 1));
    }

    /** "what all ask is least": for each two of them, one left over counts as two */
    private static void wishWithLeastAsked() {
        DaysLent odd = Books.of("P033P034P000");
        int[] want = {3, 3, 6, 7, 10, 14};
        for (int a = 1; a <= 6; a++) {
            check.due("wish for " + a, want[a - 1], odd.wish(2, a));
        }
        check.due("and no more", NONE, odd.wish(2, 7));
        DaysLent one = Books.of("P015P019P000");
        check.due("the cheaper one", 5, one.wish(2, 1));
        check.due("one of each", 14, one.wish(2, 2));
        DaysLent free = Books.of("P990P999P000");
        check.due("for nothing", 0, free.wish(2, 99));
        DaysLent dear = Books.of("P999P000");
        check.due("50 twos by 9", 450, dear.wish(1, 99));
        check.due("49 twos by 9", 441, dear.wish(1, 98));
        dear.ask(0, 8);
        check.due("asks otherwise", 400, dear.wish(1, 99));
        DaysLent five = Books.of("P209P208P207P206P195P000");
        check.due("the four cheapest, and 20 of the dearest", 50 + 60 + 70 + 80 + 90, five.wish(5, 99));
        check.due("one fewer: the one left over of the cheapest", 45 + 60 + 70 + 80 + 90, five.wish(5, 98));
        check.due("two fewer: two of the dearest", 50 + 60 + 70 + 80 + 81, five.wish(5, 97));
    }

    private static void by(DaysLent x, int person, int a, int... want) {
        for (int other = 0; other < want.length; other++) {
            check.due("wishBy(" + person + ", " + a + ", " + other + ")", want[other], x.wishBy(person, a, other));
        }
    }

    /** "of like ones PERSON 0 lends fewest, then PERSON 1, .." */
    private static void wishOfLikeOnes() {
        DaysLent free = Books.of("P100P100P100P100P100P100");
        by(free, 5, 1, 0, 0, 0, 0, 1, 0);
        by(free, 5, 10, 0, 0, 0, 0, 10, 0);
        by(free, 5, 11, 0, 0, 0, 1, 10, 0);
        by(free, 5, 41, 1, 10, 10, 10, 10, 0);
        by(free, 5, 50, 10, 10, 10, 10, 10, 0);
        by(free, 0, 1, 0, 0, 0, 0, 0, 1);
        by(free, 0, 41, 0, 1, 10, 10, 10, 10);
        DaysLent pairs = Books.of("P031P031P031P000");
        by(pairs, 3, 2, 0, 0, 2, 0);
        by(pairs, 3, 3, 0, 0, 3, 0);
        by(pairs, 3, 4, 0, 2, 2, 0);
        by(pairs, 3, 5, 0, 2, 3, 0);
        by(pairs, 3, 6, 2, 2, 2, 0);
        by(pairs, 3, 7, 2, 2, 3, 0);
        by(pairs, 3, 8, 2, 3, 3, 0);
        by(pairs, 3, 9, 3, 3, 3, 0);
        // that 0 lends fewest comes behind what is asked
        by(Books.of("P101P102P000"), 2, 10, 10, 0, 0);
        by(Books.of("P101P101P000"), 2, 10, 0, 10, 0);
    }

    /** "(How much one owes is not looked at.)" */
    private static void wishLooksAtNoDebts() {
        DaysLent x = Books.of("P990P000P000" + "D21991".repeat(7) + "D20991");
        check.due("owes 693", 0, x.wish(1, 99));
        check.due("a lender that owes", 99, x.wishBy(1, 99, 0));
        check.due("but to LEND it may not be", DaysLent.LATE, x.lend(0, 1, 1, 1));
        DaysLent full = Books.of("P990P000" + "D01011".repeat(8));
        for (int i = 0; i < 4; i++) {
            full.lend(0, 1, 1, 1);
        }
        check.due("with twelve debts too", 0, full.wish(1, 95));
        check.due("no more than it has", NONE, full.wish(1, 96));
    }

    // ---- part 2: runs

    private static void chance(DaysLent x, int person, int tenths, long above, long below) {
        check.due("run(" + person + ", " + tenths + ", true)", above, x.run(person, tenths, true));
        check.due("run(" + person + ", " + tenths + ", false)", below, x.run(person, tenths, false));
    }

    /** "by x tenths (0 .. 10)" */
    private static void runByTenths() {
        DaysLent x = Books.of("P000P000D10011");
        long[][] want = {{1, 1}, {9, 10}, {4, 5}, {7, 10}, {3, 5}, {1, 2}, {2, 5}, {3, 10}, {1, 5}, {1, 10}, {0, 1}};
        for (int tenths = 0; tenths <= 10; tenths++) {
            chance(x, 0, tenths, want[tenths][0], want[tenths][1]);
        }
        chance(x, 0, -1, DaysLent.BAD, DaysLent.BAD);
        chance(x, 0, 11, DaysLent.BAD, DaysLent.BAD);
    }

    /** "the chance that its MORNINGS are enough" */
    private static void runIfMorningsAreEnough() {
        for (int has = 0; has <= 20; has++) {
            for (int owes = 1; owes <= 20; owes++) {
                DaysLent x = Books.of(String.format("P%02d0P000D10%02d1", has, owes));
                chance(x, 0, 3, has < owes ? 7 : 1, has < owes ? 10 : 1);
                chance(x, 0, 10, has < owes ? 0 : 1, 1);
                chance(x, 0, 0, 1, 1);
            }
        }
        DaysLent last = Books.of("P000P000P000P000P000P060D05031D15041");
        chance(last, 5, 5, 3, 4);
        DaysLent just = Books.of("P000P000P000P000P000P070D05031D15041");
        chance(just, 5, 5, 1, 1);
    }

    /** "each other one that it owes something asks all of that, or nothing" */
    private static void runByEachOtherOne() {
        // two debts to 0, one to 2: 0 asks 7 or nothing
        DaysLent x = Books.of("P000P060P000D01031D01041D21019");
        chance(x, 1, 4, 3, 5);
        DaysLent y = Books.of("P000P070P000D01031D01041D21019");
        chance(y, 1, 4, 21, 25);
        DaysLent z = Books.of("P000P080P000D01031D01041D21019");
        chance(z, 1, 4, 1, 1);
        DaysLent owed = Books.of("P000P060P990D01071D12991");
        chance(owed, 1, 4, 3, 5);
        chance(owed, 0, 9, 1, 1);
        DaysLent one = Books.of("P010P000P000D10011D20011");
        chance(one, 0, 1, 99, 100);
        chance(one, 0, 10, 0, 1);
    }

    /** As many as can be asked at once: five others, and twelve debts to one. */
    private static void runOfAllThatThereAre() {
        DaysLent none = Books.of(SIX + "D05011D15011D25011D35011D45011");
        chance(none, 5, 1, 59049, 100000);
        chance(none, 5, 3, 16807, 100000);
        chance(none, 5, 9, 1, 100000);
        chance(none, 5, 2, 1024, 3125);
        DaysLent four = Books.of("P000P000P000P000P000P040D05011D15011D25011D35011D45011");
        chance(four, 5, 1, 99999, 100000);
        chance(four, 5, 5, 31, 32);
        DaysLent five = Books.of("P000P000P000P000P000P050D05011D15011D25011D35011D45011");
        chance(five, 5, 1, 1, 1);
        DaysLent middle = Books.of("P000P000P010P000P000P000D02011D12011D32011D42011D52011");
        chance(middle, 2, 5, 3, 16);
        DaysLent twelve = Books.of("P990P000P000");
        for (int i = 0; i < 12; i++) {
            twelve.lend(0, 1, 1, 9);
        }
        chance(twelve, 1, 1, 1, 1);
        check.due("12 of them", 12, twelve.enough(1, 1, 91));
        check.due("none of them", 0, twelve.enough(1, 1, 90));
        twelve.heirs(1, 4);
        chance(twelve, 1, 10, 1, 1);
        check.due("the dead owe none", 0, twelve.enough(1, 10, 100));
        check.due("the heir owes all", 12, twelve.enough(2, 10, 100));
    }

    /** "the least MORNINGS that it must have so that this chance is y hundredths (0 .. 100) or more" */
    private static void enoughByHundredths() {
        DaysLent one = Books.of("P990P000D10071");
        for (int tenths = 0; tenths <= 10; tenths++) {
            for (int y = 0; y <= 100; y += 5) {
                int want = 100 - 10 * tenths >= y ? 0 : 7;
                check.due("enough(0, " + tenths + ", " + y + ")", want, one.enough(0, tenths, y));
            }
            if (tenths > 0) {
                check.due("just", 0, one.enough(0, tenths, 100 - 10 * tenths));
                check.due("one more", 7, one.enough(0, tenths, 101 - 10 * tenths));
            }
        }
        check.due("y = -1", DaysLent.BAD, one.enough(0, 5, -1));
        check.due("y = 101", DaysLent.BAD, one.enough(0, 5, 101));
        // of 100: none 49, 1 alone 21, 2 alone 21, both 9
        DaysLent two = Books.of("P000P000P000D10021D20051");
        int[][] want = {{0, 0}, {49, 0}, {50, 2}, {70, 2}, {71, 5}, {91, 5}, {92, 7}, {100, 7}};
        for (int[] row : want) {
            check.due("enough(0, 3, " + row[0] + ")", row[1], two.enough(0, 3, row[0]));
        }
        DaysLent like = Books.of("P000P000P000D10051D20051");
        check.due("49", 0, like.enough(0, 3, 49));
        check.due("50", 5, like.enough(0, 3, 50));
        check.due("91", 5, like.enough(0, 3, 91));
        check.due("92", 10, like.enough(0, 3, 92));
        DaysLent zeroAsks = Books.of("P000P000P000P000P000P000D01021D21041D51081");
        check.due("0, 2 and 5 ask 1", 14, zeroAsks.enough(1, 10, 1));
        check.due("6 has 4 of 8", 6, zeroAsks.enough(1, 5, 50));
        check.due("8 has 5 of 8", 8, zeroAsks.enough(1, 5, 51));
        check.due("what it has is not looked at", 7, Books.of("P990P000D10071").enough(0, 10, 1));
        check.due("who owes nothing", 0, Books.of("P000P000D10071").enough(1, 10, 100));
    }

    // ---- part 2: rings

    private static String ringOf(int people) {
        StringBuilder text = new StringBuilder(SIX);
        for (int person = 0; person < people; person++) {
            text.append("D").append((person + 1) % people).append(person).append("0").append(9 - person).append("1");
        }
        return text.toString();
    }

    /** "DEBTS one behind the other, from one that owes to the one that is owed, and on, back to it .. NONE" */
    private static void ringFromTwoToSix() {
        for (int people = 2; people <= 6; people++) {
            DaysLent x = Books.of(ringOf(people));
            for (int person = 0; person < 6; person++) {
                check.due("ring of " + people + " from " + person, person < people ? people : NONE, x.ring(person));
                check.due("room", person < people ? 10 - people : NONE, x.room(person));
            }
            String open = ringOf(people).substring(0, 24 + 6 * (people - 1));
            DaysLent y = Books.of(open);
            for (int person = 0; person < 6; person++) {
                check.due("no ring from " + person, NONE, y.ring(person));
                check.due("no room", NONE, y.room(person));
            }
        }
        DaysLent none = Books.of(SIX);
        check.due("no debts", NONE, none.ring(5));
        check.due("no debts", NONE, none.room(5));
    }

    /** "no PERSON twice: the fewest" */
    private static void ringNoPersonTwice() {
        DaysLent eight = Books.of("P000P000P000P000D10011D01021D21031D12041D32051D23061");
        for (int person = 0; person < 4; person++) {
            check.due("two, from " + person, 2, eight.ring(person));
        }
        DaysLent both = Books.of("P000P000P000P000D10011D21021D32031D03041D02051");
        check.due("three, not four", 3, both.ring(0));
        check.due("three", 3, both.ring(2));
        check.due("four, from the one that is in it alone", 4, both.ring(3));
        // 3 owes into a ring that does not lead back to it but by 3 itself
        DaysLent tail = Books.of("P000P000P000P000D10011D01021D03031");
        check.due("none", NONE, tail.ring(3));
        check.due("two", 2, tail.ring(0));
        DaysLent twelve = Books.of("P990P990" + "D01011".repeat(8));
        for (int i = 0; i < 3; i++) {
            twelve.lend(0, 1, 1, 9);
        }
        check.due("none", NONE, twelve.ring(0));
        twelve.lend(1, 0, 5, 9);
        check.due("by the twelfth", 2, twelve.ring(0));
        check.due("by the twelfth", 2, twelve.ring(1));
        check.due("room", 1, twelve.room(0));
    }

    /** "ROOM in a RING: what the least of its DEBTS is" */
    private static void roomOfTheLeast() {
        check.due("1", 1, Books.of("P000P000D01011D10991").room(0));
        check.due("1", 1, Books.of("P000P000D01991D10011").room(0));
        check.due("99", 99, Books.of("P000P000D01991D10991").room(0));
        for (int least = 0; least < 6; least++) {
            StringBuilder text = new StringBuilder(SIX);
            for (int person = 0; person < 6; person++) {
                text.append("D").append((person + 1) % 6).append(person).append(person == least ? "411" : "421");
            }
            DaysLent x = Books.of(text.toString());
            for (int person = 0; person < 6; person++) {
                check.due("the least is that of " + least, 41, x.room(person));
            }
        }
    }

    /** "by the RING of fewest DEBTS whose DEBTS come first by number, the first one's, the second one's, .." */
    private static void roomComesFirstByNumber() {
        // like ones side by side: the first of each
        DaysLent x = Books.of("P000P000D10081D10031D01091D01021");
        check.due("0 and 2", 8, x.room(0));
        check.due("2 and 0", 8, x.room(1));
        // fewest comes ahead of first: 0 -> 1 -> 2 -> 0 begins with debt 0, but 0 -> 2 -> 0 has two
        DaysLent y = Books.of("P000P000P000D10011D21011D02051D20071");
        check.due("two debts", 2, y.ring(0));
        check.due("of 3 and 2", 5, y.room(0));
        // two ways of three: the first debt tells, though the other way's second debt is first of all
        DaysLent z = Books.of("P000P000P000P000D32021D31071D10061D20091D03081");
        check.due("by 2, 1, 4: 0 owes 1 first", 6, z.room(0));
        // the same from 3: its one debt, then that to 1, then back
        check.due("from 3", 6, z.room(3));
        // the first debt is one for both ways, the second debt tells
        DaysLent v = Books.of("P000P000P000P000D10091D31081D21071D02051D03061");
        check.due("0 -> 1 -> 3 -> 0", 6, v.room(0));
        DaysLent w = Books.of("P000P000P000P000D10091D21071D31081D02051D03061");
        check.due("0 -> 1 -> 2 -> 0", 5, w.room(0));
        // the third debt tells
        DaysLent u = Books.of("P000P000P000D10091D21081D02041D02031");
        check.due("the first of like last ones", 4, u.room(0));
    }

    // ---- part 3

    /** "a day free (0 .. 99) .. 12 of both together at most, none at first" */
    private static void daysFromNoneToTwelve() {
        check.due("none at first", 0, new DaysLent().about(8));
        for (int taken = 0; taken <= 12; taken++) {
            DaysLent x = Books.of("P000P000");
            check.due("none at first", 0, x.about(8));
            for (int one = 1; one <= 12; one++) {
                check.due("of both", one, x.day(0, one <= taken ? one : 50 + one, one > taken));
            }
            check.due("a 13th taken", DaysLent.FULL, x.day(0, 1, false));
            check.due("a 13th seen", DaysLent.FULL, x.day(0, 1, true));
            check.due("12", 12, x.about(8));
            check.due("none of those two came", 0, x.cheats());
            check.due("forgotten", 12, x.forget());
            check.due("room again", 1, x.day(0, 1, true));
        }
        for (int day = -2; day <= 101; day++) {
            DaysLent x = Books.of("P000");
            boolean bad = day < 0 || day > 99;
            check.due("day " + day, bad ? DaysLent.BAD : 1, x.day(0, day, false));
            check.due("day " + day, bad ? DaysLent.BAD : 2, x.day(0, day, true));
            check.due("cheats", bad ? 0 : 1, x.cheats());
        }
    }

    private static void cheats(int want, boolean first, int firstDay, boolean second, int secondDay) {
        for (int person = 0; person < 6; person++) {
            DaysLent x = Books.of(SIX);
            x.day(person, firstDay, first);
            check.due("one alone", 0, x.cheats());
            x.day(person, secondDay, second);
            check.due("two", want << person, x.cheats());
            DaysLent y = Books.of(SIX);
            y.day(person, firstDay, first);
            y.day((person + 1) % 6, secondDay, second);
            check.due("of two people", 0, y.cheats());
        }
    }

    /** "that have TAKEN a day on which they were SEEN, or TAKEN one twice" */
    private static void cheatsOfADay() {
        cheats(1, false, 0, true, 0);
        cheats(1, true, 99, false, 99);
        cheats(1, false, 7, false, 7);
        cheats(0, true, 7, true, 7);
        cheats(0, false, 7, false, 8);
        cheats(0, false, 7, true, 6);
        cheats(0, true, 0, false, 99);
        DaysLent x = Books.of(SIX);
        for (int day = 0; day < 6; day++) {
            x.day(day, day, false);
        }
        check.due("nobody", 0, x.cheats());
        for (int day = 0; day < 6; day++) {
            x.day(day, day, day % 2 == 0);
            check.due("up to " + day, (2 << day) - 1, x.cheats());
        }
    }

    /** "those of PEOPLE that there are" */
    private static void cheatsOfPeopleThereAre() {
        DaysLent x = Books.of(SIX);
        for (int person = 0; person < 6; person++) {
            x.day(person, 9, false);
            x.day(person, 9, true);
        }
        check.due("all of six", 63, x.cheats());
        for (int people = 5; people >= 0; people--) {
            Books.rewrite(x, SIX.substring(0, 4 * people));
            check.due("book", people, x.book());
            check.due("all of " + people, (1 << people) - 1, x.cheats());
            check.due("TAKEN, SEEN stay", 12, x.about(8));
        }
        Books.rewrite(x, SIX);
        x.book();
        check.due("all of six again", 63, x.cheats());
    }

    /** "SLOTS 0 .. 1 keep PEOPLE, DEBTS, THE WEEK" */
    private static void slotsKeep() {
        DaysLent x = Books.of("P301P052P203P000P000P009D01101D12052D35011D20039");
        x.keep(0);
        String first = Books.seen(x);
        check.due("1 and 5 are broken", 34, x.week());
        x.heirs(1, 9);
        x.ask(2, 9);
        x.keep(1);
        int[] then = {x.about(1), x.about(2), x.about(4), x.about(5), x.about(6), x.about(7), x.person(2, 1)};
        x.jubilee();
        x.week();
        check.due("slot 0", 4, x.again(0));
        check.isTrue("all as it was", first.equals(Books.seen(x)));
        check.due("slot 1", then[0], x.again(1));
        int[] now = {x.about(1), x.about(2), x.about(4), x.about(5), x.about(6), x.about(7), x.person(2, 1)};
        for (int i = 0; i < then.length; i++) {
            check.due("as it was, " + i, then[i], now[i]);
        }
        check.due("slot 0 stays kept", 4, x.again(0));
        x.week();
        x.lend(0, 2, 4, 3);
        check.due("what is done behind it does not change what is kept", 4, x.again(0));
        check.isTrue("all as it was", first.equals(Books.seen(x)));
    }

    /** "(no ACTS when one goes on)" */
    private static void slotsKeepNoActs() {
        DaysLent x = Books.of("P300P300");
        for (int week = 0; week < 10; week++) {
            x.week();
        }
        x.keep(0);
        check.due("acts stay when it is kept", 10, x.about(3));
        check.due("undo", 9, x.undo());
        check.due("again", 0, x.again(0));
        check.due("no acts", 0, x.about(3));
        check.due("nothing to undo", DaysLent.LATE, x.undo());
        check.due("week", 10, x.about(2));
        x.week();
        check.due("acts behind it", 1, x.about(3));
        check.due("none of a slot is undone", DaysLent.LATE, x.again(1));
        check.due("acts stay when it is refused", 1, x.about(3));
        check.due("undo", 0, x.undo());
        check.due("week", 10, x.about(2));
    }

    // ---- part 4

    /** "FRACTIONS are told above (upper = true), below, in least terms" */
    private static void fractionsInLeastTerms() {
        DaysLent x = Books.of("P010P000P000D10011D20011");
        // of 100: both ask in x times x
        for (int tenths = 0; tenths <= 10; tenths++) {
            long above = 100 - tenths * tenths;
            long below = 100;
            for (int by = 100; by > 1; by--) {
                if (above % by == 0 && below % by == 0) {
                    above /= by;
                    below /= by;
                }
            }
            chance(x, 0, tenths, above, below);
        }
        chance(x, 0, 10, 0, 1);
        chance(x, 0, 0, 1, 1);
        check.due("UNKNOWN", -1, DaysLent.UNKNOWN);
        check.due("BAD", -2, DaysLent.BAD);
        check.due("LATE", -3, DaysLent.LATE);
        check.due("FULL", -4, DaysLent.FULL);
        check.due("NONE", -9, DaysLent.NONE);
    }
}
