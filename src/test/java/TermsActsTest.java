/**
 * The bounds that the document's 'Terms', part 1, name of ACTS: a method for each sentence, which stands above it, on
 * both sides of the bound.
 */
public final class TermsActsTest {
    private static final Check check = new Check("TermsActsTest");
    private static final int LATE = DaysLent.LATE;

    public static void main(String[] args) {
        lendGivesNow();
        lendFromOneOn();
        lendOweWhatIsAsked();
        lendDueInALaterWeek();
        lendBehindTheOthers();
        lendIfIHasAsMany();
        lendIfBothAreAlive();
        lendIfJIsNotBroken();
        lendIfJOwesEightyOrLess();
        weekIsOneMore();
        weekPaysWhatIsDueInIt();
        weekPaysByNumber();
        weekPaysAllItHas();
        weekBreaksNobodyTwice();
        weekTakesDebtsAway();
        springComesByFours();
        springLeavesTwenty();
        springComesBehindPayments();
        heirsShareAlike();
        heirsLeastHasWhatIsLeftOver();
        heirsTakeMorningsOfOne();
        heirsLeastHasTheDebts();
        heirsThatWouldOweThemselves();
        heirsDeadAndBroken();
        jubilee();
        actsAreTenAtMost();
        actsOfEachKindAreForgotten();
        actsAfterTheRowWentRound();
        undoneIsAllAsItWas();
        manyCalls();
        check.end();
    }

    // ---- to LEND

    /** "PERSON i gives PERSON j a MORNINGS .. now" */
    private static void lendGivesNow() {
        DaysLent x = Books.of("P100P050");
        check.due("lend", 4, x.lend(0, 1, 4, 9));
        check.due("i has fewer", 6, x.person(0, 0));
        check.due("j has more", 9, x.person(1, 0));
        check.due("all have as many", 15, x.about(6));
        check.due("the rest", 6, x.lend(0, 1, 6, 9));
        check.due("i has none", 0, x.person(0, 0));
        check.due("j has all", 15, x.person(1, 0));
    }

    /** "a MORNINGS (1 .. 99)": 81 .. 99 are refused only as what would be owed, 100 as no such number */
    private static void lendFromOneOn() {
        for (int a = -1; a <= 101; a++) {
            int want = a < 1 || a > 99 ? DaysLent.BAD : a > 80 ? LATE : a;
            check.due("lend " + a, want, Books.of("P990P000").lend(0, 1, a, 1));
        }
        DaysLent rich = Books.of("P990P990P000");
        rich.heirs(0, 2);
        check.due("198 are there, 100 are BAD all the same", DaysLent.BAD, rich.lend(1, 2, 100, 1));
        check.due("99", LATE, rich.lend(1, 2, 99, 1));
    }

    /** "what i asks for each two of them (one left over counts as two)" */
    private static void lendOweWhatIsAsked() {
        for (int r = 0; r <= 9; r++) {
            for (int a = 1; a <= 99; a++) {
                DaysLent x = Books.of("P99" + r + "P007");
                int pairs = a % 2 == 0 ? a / 2 : (a + 1) / 2;
                int owed = a + r * pairs;
                check.due("lend " + a + " asking " + r, owed <= 80 ? owed : LATE, x.lend(0, 1, a, 1));
                check.due("what j owes", owed <= 80 ? owed : 0, x.person(1, 4));
                check.due("what i is owed", owed <= 80 ? owed : 0, x.person(0, 5));
            }
        }
        check.due("what j asks is not looked at", 2, Books.of("P990P009").lend(0, 1, 2, 1));
    }

    /** "due in a later WEEK (THE WEEK and 1 .. 9)" */
    private static void lendDueInALaterWeek() {
        for (int week = 0; week <= 13; week++) {
            for (int weeks = 0; weeks <= 10; weeks++) {
                DaysLent x = Books.of("P200P000");
                for (int w = 0; w < week; w++) {
                    x.week();
                }
                if (weeks == 0 || weeks == 10) {
                    check.due("for " + weeks, DaysLent.BAD, x.lend(0, 1, 1, weeks));
                    continue;
                }
                check.due("for " + weeks, 1, x.lend(0, 1, 1, weeks));
                check.due("due", week + weeks, x.debt(0, 3));
                for (int w = 1; w <= weeks; w++) {
                    check.due("owed ahead of week " + w, 1, x.about(1));
                    x.week();
                }
                check.due("paid", 0, x.about(1));
                check.due("paid", 20, x.person(0, 0));
            }
        }
    }

    /** "a DEBT, behind the others" */
    private static void lendBehindTheOthers() {
        DaysLent x = Books.of("P300P300D01059D10041");
        x.lend(0, 1, 3, 2);
        check.due("the first stays", 5, x.debt(0, 2));
        check.due("the second stays", 4, x.debt(1, 2));
        int[] want = {0, 1, 3, 2};
        for (int what = 0; what < 4; what++) {
            check.due("the new one, " + what, want[what], x.debt(2, what));
        }
        x.week();
        x.lend(1, 0, 6, 1);
        check.due("behind those that are left", 6, x.debt(2, 2));
        check.due("ahead of it", 3, x.debt(1, 2));
    }

    /** "It may be, if i has as many" */
    private static void lendIfIHasAsMany() {
        for (int has = 0; has <= 30; has++) {
            String book = String.format("P%02d0P000", has);
            check.due("one more than it has", LATE, Books.of(book).lend(0, 1, has + 1, 1));
            if (has > 0) {
                check.due("all it has", has, Books.of(book).lend(0, 1, has, 1));
            }
        }
        DaysLent x = Books.of("P050P990D01501");
        check.due("what i is owed does not help", LATE, x.lend(0, 1, 6, 1));
        check.due("what j has does not help", 5, x.lend(0, 1, 5, 1));
    }

    /** "both are alive" */
    private static void lendIfBothAreAlive() {
        DaysLent x = Books.of("P300P300P300");
        check.due("alive", 1, x.lend(0, 2, 1, 1));
        check.due("alive", 1, x.lend(2, 0, 1, 1));
        x.heirs(2, 2);
        check.due("to a dead one", LATE, x.lend(0, 2, 1, 1));
        check.due("by a dead one", LATE, x.lend(2, 0, 1, 1));
        check.due("others", 1, x.lend(0, 1, 1, 1));
        x.undo();
        x.undo();
        check.due("alive again", 1, x.lend(0, 2, 1, 1));
        DaysLent heir = Books.of("P300P000P300");
        heir.heirs(0, 2);
        check.due("an heir may, out of what came to it", 30, heir.lend(1, 2, 30, 1));
        DaysLent both = Books.of("P300P300P300");
        both.heirs(0, 4);
        both.heirs(1, 4);
        check.due("both dead", LATE, both.lend(0, 1, 1, 1));
    }

    /** "j is not BROKEN" */
    private static void lendIfJIsNotBroken() {
        DaysLent x = Books.of("P300P000P300D01011");
        check.due("not yet", 1, x.lend(2, 1, 1, 9));
        x.undo();
        check.due("broken", 2, x.week());
        check.due("to a broken one", LATE, x.lend(2, 1, 1, 9));
        check.due("to another one", 1, x.lend(2, 0, 1, 9));
        x.jubilee();
        check.due("behind a jubilee", 1, x.lend(2, 1, 1, 9));
        DaysLent i = Books.of("P010P000P030D10021D02032");
        i.week();
        i.week();
        check.due("0 is broken", 1, i.about(5));
        check.due("a broken one lends", 3, i.lend(0, 1, 3, 1));
        DaysLent u = Books.of("P300P000D01011");
        u.week();
        u.undo();
        check.due("undone", 1, u.lend(0, 1, 1, 9));
    }

    /** "all that j owes then is 80 or less" */
    private static void lendIfJOwesEightyOrLess() {
        for (int owes = 1; owes <= 99; owes++) {
            String book = String.format("P990P990P990D21%02d9", owes);
            int most = 80 - owes;
            if (most >= 1) {
                check.due("up to 80", most, Books.of(book).lend(0, 1, most, 1));
            }
            check.due("81", LATE, Books.of(book).lend(0, 1, Math.max(most, 0) + 1, 1));
        }
        DaysLent x = Books.of("P990P990P990D01401D01201D21191");
        check.due("what it owes to all counts", LATE, x.lend(2, 1, 2, 1));
        check.due("80", 1, x.lend(2, 1, 1, 1));
        check.due("what it is owed does not help", LATE, Books.of("P990P990D01801D10801").lend(0, 1, 1, 1));
        check.due("what i owes is not looked at", 80, Books.of("P990P990P990D20991").lend(0, 1, 80, 1));
        DaysLent paid = Books.of("P990P990D01801");
        check.due("81", LATE, paid.lend(0, 1, 1, 1));
        paid.week();
        check.due("what is paid counts no more", 80, paid.lend(0, 1, 80, 1));
    }

    // ---- a WEEK

    /** "THE WEEK is 1 more" */
    private static void weekIsOneMore() {
        DaysLent x = Books.of("P000");
        for (int week = 1; week <= 250; week++) {
            check.due("nobody is broken", 0, x.week());
            check.due("the week", week, x.about(2));
        }
    }

    /** "each DEBT that is due in it": not ahead of it, not behind it */
    private static void weekPaysWhatIsDueInIt() {
        for (int due = 1; due <= 9; due++) {
            DaysLent x = Books.of("P000P200D01" + "05" + due);
            for (int week = 1; week <= 10; week++) {
                x.week();
                check.due("due in " + due + ", week " + week, week < due ? 0 : 5, x.person(0, 0));
                check.due("debts", week < due ? 1 : 0, x.about(1));
            }
        }
    }

    /** "by number, is paid" */
    private static void weekPaysByNumber() {
        DaysLent ahead = Books.of("P000P030P000D01031D20031");
        check.due("1 pays 0, then 0 pays 2", 0, ahead.week());
        check.due("2 has", 3, ahead.person(2, 0));
        DaysLent behind = Books.of("P000P030P000D20031D01031");
        check.due("0 has to pay 2 first", 1, behind.week());
        check.due("2 has none", 0, behind.person(2, 0));
        check.due("0 has what came late", 3, behind.person(0, 0));
        DaysLent two = Books.of("P000P040P000D01031D21031");
        check.due("the first is paid whole", 2, two.week());
        check.due("the first", 3, two.person(0, 0));
        check.due("the second", 1, two.person(2, 0));
        DaysLent later = Books.of("P000P040P000D01032D21031");
        check.due("a later week is no part of it", 0, later.week());
        check.due("the second", 3, later.person(2, 0));
        check.due("the first breaks it", 2, later.week());
        check.due("the first", 1, later.person(0, 0));
    }

    /** "gives so many MORNINGS, or all it has, if that is less: then it is BROKEN" */
    private static void weekPaysAllItHas() {
        for (int has = 0; has <= 20; has++) {
            for (int owes = 1; owes <= 20; owes++) {
                DaysLent x = Books.of(String.format("P000P%02d0D01%02d1", has, owes));
                check.due("broken", has < owes ? 2 : 0, x.week());
                check.due("broken", has < owes ? 1 : 0, x.person(1, 3));
                check.due("paid", Math.min(has, owes), x.person(0, 0));
                check.due("left", Math.max(has - owes, 0), x.person(1, 0));
                check.due("gone", 0, x.about(1));
            }
        }
    }

    /** Promise 11: "who is BROKEN by it (and was not), as bits" */
    private static void weekBreaksNobodyTwice() {
        DaysLent x = Books.of("P000P000P000P000P000P000D05011D01011D15012D15013D04023D50024");
        check.due("5 and 1", 34, x.week());
        check.due("5 was", 0, x.week());
        check.due("5 was, 4 was not", 16, x.week());
        check.due("0", 1, x.week());
        check.due("all of them", 51, x.about(5));
        x.undo();
        check.due("0 is not", 50, x.about(5));
        check.due("once more", 1, x.week());
        x.jubilee();
        check.due("nobody", 0, x.about(5));
        DaysLent twice = Books.of("P000P000P000D10011D20011");
        check.due("by two debts in one week", 1, twice.week());
        DaysLent again = Books.of("P100P000D01011D01022");
        check.due("broken", 2, again.week());
        again.jubilee();
        again.lend(0, 1, 3, 1);
        check.due("it has enough now", 0, again.week());
        again.lend(0, 1, 2, 2);
        again.heirs(1, 1);
        check.due("the dead owe nothing", 0, again.week());
    }

    /** "Paid or not, the DEBT is gone (those behind it are one less)" */
    private static void weekTakesDebtsAway() {
        DaysLent x = Books.of("P200P000D01012D01021D01033D01041D10051D10062D01071D01089");
        x.week();
        int[] left = {1, 3, 6, 8};
        check.due("debts", 4, x.about(1));
        for (int debt = 0; debt < 4; debt++) {
            check.due("debt " + debt, left[debt], x.debt(debt, 2));
        }
        check.due("none behind", DaysLent.UNKNOWN, x.debt(4, 2));
        x.week();
        check.due("debts", 2, x.about(1));
        check.due("debt 0", 3, x.debt(0, 2));
        check.due("debt 1", 8, x.debt(1, 2));
        DaysLent full = twelveDueInOne();
        check.due("twelve at once", 0, full.week());
        check.due("all gone", 0, full.about(1));
        check.due("paid", 0, full.person(1, 0));
        check.due("paid", 99, full.person(0, 0));
    }

    private static DaysLent twelveDueInOne() {
        DaysLent x = Books.of("P990P000");
        for (int debt = 0; debt < 12; debt++) {
            x.lend(0, 1, 1 + debt % 2, 1);
        }
        return x;
    }

    /** "if THE WEEK can be divided by 4" */
    private static void springComesByFours() {
        DaysLent x = Books.of("P150P150P000");
        for (int week = 1; week <= 24; week++) {
            x.lend(0, 1, 10, 9);
            check.due("25", 25, x.person(1, 0));
            x.week();
            check.due("behind week " + week, week % 4 == 0 ? 20 : 25, x.person(1, 0));
            x.undo();
            x.undo();
            x.week();
            check.due("week", week, x.about(2));
        }
    }

    /** "all MORNINGS of one that are above 20 go bad" */
    private static void springLeavesTwenty() {
        for (int has = 0; has <= 99; has++) {
            DaysLent x = Books.of(String.format("P%02d0P%02d0P000P000P000P%02d0", has, 99 - has, has));
            for (int week = 1; week <= 3; week++) {
                x.week();
            }
            check.due("has", has, x.person(0, 0));
            x.week();
            check.due("0 keeps", Math.min(has, 20), x.person(0, 0));
            check.due("1 keeps", Math.min(99 - has, 20), x.person(1, 0));
            check.due("5 keeps", Math.min(has, 20), x.person(5, 0));
            check.due("2 has none", 0, x.person(2, 0));
        }
        DaysLent much = Books.of("P990P990P990P990P990P990");
        for (int person = 0; person < 5; person++) {
            much.heirs(person, 32);
        }
        check.due("594", 594, much.person(5, 0));
        for (int week = 1; week <= 4; week++) {
            much.week();
        }
        check.due("20", 20, much.about(6));
    }

    /** "Then, if ..": what is paid in that week is paid ahead of it */
    private static void springComesBehindPayments() {
        DaysLent x = Books.of("P150P300P000D01104D12018");
        for (int week = 1; week <= 4; week++) {
            x.week();
        }
        check.due("25 go to 20", 20, x.person(0, 0));
        check.due("30 less 10 stay", 20, x.person(1, 0));
        DaysLent y = Books.of("P000P300D01254");
        for (int week = 1; week <= 4; week++) {
            check.due("30 are enough for 25, though 20 are not", 0, y.week());
        }
        check.due("25 go to 20", 20, y.person(0, 0));
        check.due("5 are left", 5, y.person(1, 0));
    }

    // ---- HEIRS

    /** "each has as many of its MORNINGS, what is left over goes to the least of them" */
    private static void heirsShareAlike() {
        for (int has = 0; has <= 99; has++) {
            for (int heirs = 2; heirs <= 62; heirs += 2) {
                DaysLent x = Books.of(String.format("P%02d0P000P000P000P000P000", has));
                check.due("no debts", 0, x.heirs(0, heirs));
                int sharers = Integer.bitCount(heirs);
                int least = Integer.numberOfTrailingZeros(heirs);
                for (int heir = 1; heir <= 5; heir++) {
                    int share = (heirs & 1 << heir) == 0 ? 0 : has / sharers + (heir == least ? has % sharers : 0);
                    check.due(has + " to " + heirs + ", " + heir, share, x.person(heir, 0));
                }
                check.due("none left", 0, x.person(0, 0));
            }
        }
    }

    private static void heirsLeastHasWhatIsLeftOver() {
        DaysLent fewer = Books.of("P010P010P010P020P010P010");
        fewer.heirs(3, 55);
        check.due("two for five: the least has both", 3, fewer.person(0, 0));
        check.due("and others none", 1, fewer.person(5, 0));
        DaysLent last = Books.of("P010P010P010P010P010P070");
        last.heirs(5, 26);
        check.due("three are heirs, 1 is the least", 4, last.person(1, 0));
        check.due("0 is none", 1, last.person(0, 0));
        check.due("3", 3, last.person(3, 0));
        check.due("4", 3, last.person(4, 0));
        DaysLent none = Books.of("P000P050");
        none.heirs(0, 2);
        check.due("nothing to share", 5, none.person(1, 0));
    }

    private static void heirsTakeMorningsOfOne() {
        DaysLent x = Books.of("P110P220P330");
        check.due("heirs", 0, x.heirs(1, 4));
        check.due("to what it has", 55, x.person(2, 0));
        check.due("others have theirs", 11, x.person(0, 0));
        check.due("all have as many", 66, x.about(6));
    }

    /** "DEBTS in which it owes, or is owed, are those of the least HEIR" */
    private static void heirsLeastHasTheDebts() {
        DaysLent x = Books.of("P000P000P000P000P000P000D54011D45022D35033D53044D01055");
        check.due("none gone", 0, x.heirs(5, 6));
        int[][] want = {{1, 4, 1, 1}, {4, 1, 2, 2}, {3, 1, 3, 3}, {1, 3, 4, 4}, {0, 1, 5, 5}};
        for (int debt = 0; debt < 5; debt++) {
            for (int what = 0; what < 4; what++) {
                check.due("debt(" + debt + ", " + what + ")", want[debt][what], x.debt(debt, what));
            }
        }
        check.due("the least heir owes", 10, x.person(1, 4));
        check.due("the other heir owes none", 0, x.person(2, 4));
        check.due("the dead owes none", 0, x.person(5, 4));
        check.due("the dead is owed none", 0, x.person(5, 5));
        DaysLent over = Books.of("P990P000P000D01801D02801");
        check.due("heirs", 0, over.heirs(2, 2));
        check.due("more than 80 may be had so", 160, over.person(1, 4));
        check.due("but no more lent", LATE, over.lend(0, 1, 1, 1));
    }

    /** "if that would owe itself, they are gone" */
    private static void heirsThatWouldOweThemselves() {
        DaysLent x = Books.of("P000P000P000D01011D10022D02033D20044D12055D21066");
        check.due("both ways between 0 and 1", 2, x.heirs(1, 5));
        check.due("left", 4, x.about(1));
        int[] much = {3, 4, 5, 6};
        for (int debt = 0; debt < 4; debt++) {
            check.due("those behind are less", much[debt], x.debt(debt, 2));
        }
        DaysLent other = Books.of("P000P000P000D01011D10022D02033D20044D12055D21066");
        check.due("an heir that is not the least owes on", 2, other.heirs(2, 3));
        check.due("between 0 and 1", 4, other.about(1));
        DaysLent all = Books.of("P000P000" + "D01011D10011".repeat(4));
        check.due("all of eight", 8, all.heirs(0, 2));
        check.due("none left", 0, all.about(1));
        DaysLent none = Books.of("P000P000P000D01011");
        check.due("none of its own", 0, none.heirs(2, 1));
        check.due("one left", 1, none.about(1));
    }

    /** "a PERSON that is alive dies; some others that are alive are its HEIRS" */
    private static void heirsDeadAndBroken() {
        DaysLent x = Books.of("P000P000P000P000D10011D20012");
        x.week();
        check.due("0 is broken", 1, x.about(5));
        check.due("a broken one may be an heir", 0, x.heirs(3, 1));
        check.due("a broken one may die", 0, x.heirs(0, 2));
        check.due("alive", 6, x.about(4));
        check.due("0 is dead", 0, x.person(0, 2));
        check.due("1 is alive", 1, x.person(1, 2));
        check.due("the heir owes", 1, x.person(1, 4));
        check.due("the heir is not broken by it", 0, x.person(1, 3));
        check.due("a dead heir", LATE, x.heirs(1, 1));
        check.due("a dead one", LATE, x.heirs(0, 2));
        check.due("the last but one", 1, x.heirs(1, 4));
        check.due("the last one has no heirs that are alive", LATE, x.heirs(2, 2));
        check.due("alive", 4, x.about(4));
    }

    /** "A JUBILEE: all DEBTS are gone; nobody is BROKEN" */
    private static void jubilee() {
        DaysLent x = twelveDueInOne();
        check.due("twelve", 12, x.jubilee());
        check.due("none", 0, x.about(1));
        check.due("none", DaysLent.UNKNOWN, x.debt(0, 0));
        check.due("nobody owes", 0, x.person(1, 4));
        check.due("none to forgive", 0, x.jubilee());
        check.due("what was lent stays lent", 18, x.person(1, 0));
        DaysLent all = Books.of("P000P000P000P000P000P000D01011D12011D23011D34011D45011D50011");
        check.due("all are broken", 63, all.week());
        check.due("no debts", 0, all.jubilee());
        check.due("nobody", 0, all.about(5));
        check.due("all alive", 63, all.about(4));
    }

    // ---- ACTS

    /** "a row (10 at most; when it is full, the first one is forgotten)" */
    private static void actsAreTenAtMost() {
        for (int acts = 0; acts <= 35; acts++) {
            DaysLent x = Books.of("P000");
            for (int act = 0; act < acts; act++) {
                x.week();
            }
            int kept = Math.min(acts, 10);
            check.due("acts", kept, x.about(3));
            for (int left = kept - 1; left >= 0; left--) {
                check.due("left", left, x.undo());
                check.due("week", acts - kept + left, x.about(2));
            }
            check.due("no more", LATE, x.undo());
            check.due("what was forgotten stays", acts - kept, x.about(2));
            check.due("none", 0, x.about(3));
        }
    }

    private static void actsOfEachKindAreForgotten() {
        String book = "P200P200P200D01019";
        for (int kind = 0; kind < 4; kind++) {
            DaysLent ten = Books.of(book);
            act(ten, kind);
            undoWeeks(ten, 9);
            check.due("the first of ten can be undone, kind " + kind, 0, ten.undo());
            check.isTrue("as it was", Books.seen(Books.of(book)).equals(Books.seen(ten)));

            DaysLent eleven = Books.of(book);
            act(eleven, kind);
            eleven.keep(0);
            undoWeeks(eleven, 10);
            check.due("the first of eleven is forgotten, kind " + kind, LATE, eleven.undo());
            String stays = Books.seen(eleven);
            eleven.again(0);
            check.isTrue("it stays done", Books.seen(eleven).equals(stays));
        }
    }

    private static void undoWeeks(DaysLent x, int weeks) {
        for (int week = 0; week < weeks; week++) {
            x.week();
        }
        check.due("ten acts", 10, x.about(3));
        for (int week = 0; week < weeks; week++) {
            check.due("left", 9 - week, x.undo());
        }
    }

    private static void act(DaysLent x, int kind) {
        switch (kind) {
            case 0 -> x.lend(0, 1, 5, 9);
            case 1 -> x.week();
            case 2 -> x.heirs(2, 3);
            default -> x.jubilee();
        }
    }

    private static void actsAfterTheRowWentRound() {
        DaysLent x = Books.of("P000");
        for (int round = 0; round < 8; round++) {
            for (int act = 0; act < 13; act++) {
                x.week();
            }
            int week = x.about(2);
            for (int back = 1; back <= 7; back++) {
                check.due("left", 10 - back, x.undo());
                check.due("week", week - back, x.about(2));
            }
        }
        x.keep(0);
        x.again(0);
        check.due("none", LATE, x.undo());
        int from = x.about(2);
        for (int act = 1; act <= 12; act++) {
            x.week();
        }
        for (int left = 9; left >= 0; left--) {
            check.due("left", left, x.undo());
            check.due("week", from + 2 + left, x.about(2));
        }
        check.due("none", LATE, x.undo());
    }

    /** "the last one can be undone (all is as it was ahead of it)" */
    private static void undoneIsAllAsItWas() {
        for (int acts = 1; acts <= 10; acts++) {
            DaysLent x = withActs(acts);
            check.due("acts", acts, x.about(3));
            check.due("left", acts - 1, x.undo());
            check.isTrue("act " + acts + " is undone", Books.seen(withActs(acts - 1)).equals(Books.seen(x)));
            DaysLent y = withActs(10);
            for (int left = 9; left >= acts; left--) {
                check.due("left", left, y.undo());
            }
            check.isTrue("those behind " + acts + " are undone", Books.seen(withActs(acts)).equals(Books.seen(y)));
        }
    }

    private static DaysLent withActs(int acts) {
        DaysLent x = Books.of("P993P502P301P000P211P999D01102D12034D30051D43019D54994D05034D10039D21078");
        for (int act = 1; act <= acts; act++) {
            switch (act) {
                case 1 -> check.due("13, and 7", 20, x.lend(2, 3, 13, 4));
                case 4 -> check.due("4 and 3, both ways", 1, x.heirs(4, 40));
                case 7 -> check.due("those due in 8 and 9", 2, x.jubilee());
                case 8 -> check.due("1, and 3", 4, x.lend(0, 1, 1, 1));
                default -> x.week();
            }
        }
        return x;
    }

    /** "An object is used for at most 512 calls": the 512th is answered as the first ones are */
    private static void manyCalls() {
        DaysLent x = Books.of("P990P000");
        // a write, and the book, were the first two
        for (int call = 3; call <= 508; call++) {
            x.week();
        }
        check.due("week", 506, x.about(2));
        check.due("lend", 20, x.lend(0, 1, 20, 9));
        check.due("due", 515, x.debt(0, 3));
        check.due("undo", 9, x.undo());
    }
}
