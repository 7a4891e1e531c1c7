/**
 * The bounds that the document's 'Terms', part 1, name of PEOPLE, DEBTS, THE TEXT and THE BOOK: a method for each
 * sentence, which stands above it, on both sides of the bound.
 */
public final class TermsBookTest {
    private static final Check check = new Check("TermsBookTest");
    private static final int NONE = DaysLent.NONE;
    private static final String SIX = "P100P200P300P400P500P600";
    private static final String EIGHT = "D01011D12022D23033D34044D45055D50066D02077D13088";

    public static void main(String[] args) {
        sixPeopleAtMost();
        twelveDebtsAtMost();
        setsAreBits();
        textOfEightyAtMost();
        partsNoneOrMore();
        numberedAsTold();
        personsDigits();
        debtsPeople();
        debtsPeopleUnlike();
        debtsPeopleToldAhead();
        debtsMorningsAndWeek();
        eightDebtsAtMostInAText();
        otherBytesBeginNoPart();
        faultIsTheFirst();
        faultWhateverCameBehind();
        faultOfWhatIsNotAtItsEnd();
        faultLengthSetAside();
        nobodyAtFirst();
        weekWhenMadeAnew();
        smallerBookBehindALargerOne();
        check.end();
    }

    private static int fault(String text) {
        DaysLent x = new DaysLent();
        Books.write(x, text);
        check.due("all of it came: " + text, text.length(), x.about(9));
        int fault = x.fault();
        check.due("a book just if there is no fault: " + text, fault == NONE ? 1 : 0, x.book() == DaysLent.LATE ? 0 : 1);
        return fault;
    }

    private static void faultIs(int want, String text) {
        check.due("fault of " + text, want, fault(text));
    }

    /** "PEOPLE are 0, 1, .. (6 at most)" */
    private static void sixPeopleAtMost() {
        for (int people = 0; people <= 6; people++) {
            faultIs(NONE, SIX.substring(0, 4 * people));
            DaysLent x = new DaysLent();
            Books.write(x, SIX.substring(0, 4 * people));
            check.due("so many", people, x.book());
            check.due("so many", people, x.about(0));
            for (int person = 0; person < people; person++) {
                check.due("person " + person, 10 * (person + 1), x.person(person, 0));
            }
            check.due("nobody behind them", DaysLent.UNKNOWN, x.person(people, 0));
            check.due("nobody ahead of them", DaysLent.UNKNOWN, x.person(-1, 0));
        }
        faultIs(24, SIX + "P");
        faultIs(24, SIX + "P000");
        faultIs(30, SIX + "D01011" + "P000");
        faultIs(30, "P100P200P300P400P500D01011" + "P600" + "P700");
        faultIs(NONE, "P100P200P300P400P500D01011" + "P600");
    }

    /** "DEBTS 0, 1, .. (12 at most)" */
    private static void twelveDebtsAtMost() {
        DaysLent x = Books.of("P990P000P000P000P000P000");
        for (int debt = 0; debt < 12; debt++) {
            check.due("no such debt yet", DaysLent.UNKNOWN, x.debt(debt, 2));
            check.due("lent", debt + 1, x.lend(0, 1 + debt % 5, debt + 1, 9));
            check.due("so many", debt + 1, x.about(1));
            check.due("it is the last one", debt + 1, x.debt(debt, 2));
        }
        check.due("a 13th", DaysLent.FULL, x.lend(0, 1, 1, 9));
        check.due("12", 12, x.about(1));
        check.due("there is no debt 12", DaysLent.UNKNOWN, x.debt(12, 2));
        check.due("the last one is as it was", 12, x.debt(11, 2));
        check.due("what all owe", 78, x.about(7));
        DaysLent y = Books.of(SIX + EIGHT);
        for (int more = 9; more <= 12; more++) {
            check.due("8 told ones, and more", 1, y.lend(5, 0, 1, 9));
            check.due("so many", more, y.about(1));
        }
        check.due("a 13th", DaysLent.FULL, y.lend(5, 0, 1, 9));
    }

    /** "sets of PEOPLE are bits" */
    private static void setsAreBits() {
        for (int people = 0; people <= 6; people++) {
            DaysLent x = Books.of(SIX.substring(0, 4 * people));
            int all = (1 << people) - 1;
            check.due("all alive", all, x.about(4));
            check.due("all told ones fall", all, x.falls(all));
            check.due("one more is no set of them", DaysLent.BAD, x.falls(all + 1));
            for (int person = 0; person < people; person++) {
                check.due("one told one falls", 1 << person, x.falls(1 << person));
            }
        }
    }

    /** "THE TEXT is bytes (80 at most)" */
    private static void textOfEightyAtMost() {
        for (int n = 1; n <= 8; n++) {
            DaysLent fits = new DaysLent();
            Books.write(fits, "P".repeat(80 - n));
            check.due("up to 80", 80, fits.write(n, 0));
            check.due("80", 80, fits.about(9));
            check.due("not one more", DaysLent.FULL, fits.write(1, 0));
            DaysLent over = new DaysLent();
            Books.write(over, "P".repeat(81 - n));
            check.due("up to 81", DaysLent.FULL, over.write(n, 0));
            check.due("none of them came", 81 - n, over.about(9));
            check.due("80", 80, n == 1 ? over.about(9) : over.write(n - 1, 0));
            check.due("wipe", 80, over.wipe());
            check.due("room again", n, over.write(n, 0));
        }
    }

    /** "A BOOK is a TEXT of PARTS, none or more" */
    private static void partsNoneOrMore() {
        faultIs(NONE, "");
        DaysLent x = new DaysLent();
        check.due("a book of none", 0, x.book());
        check.due("nobody", 0, x.about(0));
        Books.write(x, "P990");
        check.due("of one", 1, x.book());
        x.wipe();
        check.due("of none again", 0, x.book());
        check.due("nobody again", DaysLent.UNKNOWN, x.person(0, 0));
        Books.write(x, SIX + EIGHT);
        check.due("of all there can be", 6, x.book());
        check.due("of all there can be", 8, x.about(1));
    }

    /** "PEOPLE and DEBTS numbered as they are told" */
    private static void numberedAsTold() {
        DaysLent x = Books.of("P019P028D01011P037D20022P046D13033P055D42044P064D05055");
        for (int person = 0; person < 6; person++) {
            check.due("mornings", person + 1, x.person(person, 0));
            check.due("asks", 9 - person, x.person(person, 1));
        }
        int[][] want = {{0, 1, 1, 1}, {2, 0, 2, 2}, {1, 3, 3, 3}, {4, 2, 4, 4}, {0, 5, 5, 5}};
        for (int debt = 0; debt < 5; debt++) {
            for (int what = 0; what < 4; what++) {
                check.due("debt(" + debt + ", " + what + ")", want[debt][what], x.debt(debt, what));
            }
        }
    }

    private static String with(String text, int place, int sign) {
        return text.substring(0, place) + (char) sign + text.substring(place + 1);
    }

    private static boolean isDigit(int sign, char least, char most) {
        return sign >= least && sign <= most;
    }

    /** "Pnnr: a PERSON that has nn MORNINGS (00 .. 99) and asks r (0 .. 9)": each place, each of the 256 bytes */
    private static void personsDigits() {
        for (int start = 0; start <= 20; start += 4) {
            for (int place = 1; place <= 3; place++) {
                for (int sign = 0; sign < 256; sign++) {
                    faultIs(isDigit(sign, '0', '9') ? NONE : start + place, with(SIX, start + place, sign));
                }
            }
        }
        for (int number = 0; number <= 999; number++) {
            DaysLent x = Books.of(String.format("P%03d", number));
            check.due("mornings", number / 10, x.person(0, 0));
            check.due("asks", number % 10, x.person(0, 1));
        }
    }

    /** "PERSON j owes PERSON i (.. both told ahead of it)": each of the 256 bytes, with 2 to 6 people */
    private static void debtsPeople() {
        for (int people = 2; people <= 6; people++) {
            String text = SIX.substring(0, 4 * people) + "D01011";
            int start = 4 * people;
            char last = (char) ('0' + people - 1);
            for (int sign = 0; sign < 256; sign++) {
                int wantForI = !isDigit(sign, '0', last) ? start + 1 : sign == '1' ? start + 2 : NONE;
                faultIs(wantForI, with(text, start + 1, sign));
                faultIs(isDigit(sign, '1', last) ? NONE : start + 2, with(text, start + 2, sign));
            }
        }
        DaysLent x = Books.of(SIX + "D05011D50022");
        check.due("0 is owed", 0, x.debt(0, 0));
        check.due("5 owes", 5, x.debt(0, 1));
        check.due("5 is owed", 5, x.debt(1, 0));
        check.due("0 owes", 0, x.debt(1, 1));
    }

    /** "PERSON j owes PERSON i (unlike ones ..)" */
    private static void debtsPeopleUnlike() {
        for (int i = 0; i < 6; i++) {
            for (int j = 0; j < 6; j++) {
                faultIs(i == j ? 26 : NONE, SIX + "D" + i + j + "011");
            }
        }
    }

    /** "both told ahead of it": one told behind it does not help */
    private static void debtsPeopleToldAhead() {
        faultIs(0, "D");
        faultIs(0, "D01011P000P000");
        faultIs(4, "P000D");
        faultIs(4, "P000D01011P000");
        faultIs(4, "P000D10011P000");
        faultIs(9, "P000P000D20011P000");
        faultIs(10, "P000P000D02011P000");
        faultIs(NONE, "P000P000P000D20011");
        faultIs(NONE, "P000P000P000D02011");
        faultIs(NONE, "P000P000D01011P000D02011");
    }

    /** "aa MORNINGS (01 .. 99), due in WEEK w (1 .. 9)" */
    private static void debtsMorningsAndWeek() {
        String text = "P000P000D01115";
        for (int sign = 0; sign < 256; sign++) {
            faultIs(isDigit(sign, '0', '9') ? NONE : 11, with(text, 11, sign));
            faultIs(isDigit(sign, '0', '9') ? NONE : 12, with(text, 12, sign));
            faultIs(isDigit(sign, '1', '9') ? NONE : 12, with("P000P000D01015", 12, sign));
            faultIs(isDigit(sign, '1', '9') ? NONE : 13, with(text, 13, sign));
        }
        faultIs(12, "P000P000D01005");
        faultIs(NONE, "P000P000D01015");
        faultIs(NONE, "P000P000D01105");
        faultIs(NONE, "P000P000D01999");
        faultIs(13, "P000P000D01990");
        for (int much = 1; much <= 99; much++) {
            DaysLent x = Books.of(String.format("P000P000D01%02d%d", much, 1 + much % 9));
            check.due("how much", much, x.debt(0, 2));
            check.due("due", 1 + much % 9, x.debt(0, 3));
        }
    }

    /** "8 at most in a TEXT" */
    private static void eightDebtsAtMostInAText() {
        for (int debts = 0; debts <= 8; debts++) {
            String text = SIX + EIGHT.substring(0, 6 * debts);
            faultIs(NONE, text);
            check.due("so many", debts, Books.of(text).about(1));
        }
        faultIs(72, SIX + EIGHT + "D");
        faultIs(72, SIX + EIGHT + "D01011");
        String two = "P000P000";
        String eight = "D01011".repeat(8);
        faultIs(NONE, two + eight);
        faultIs(56, two + eight + "D");
        faultIs(60, two + eight + "P000" + "D");
        faultIs(NONE, two + eight + "P000P000P000P000");
        faultIs(72, two + eight + "P000P000P000P000D");
    }

    private static void otherBytesBeginNoPart() {
        for (int sign = 0; sign < 256; sign++) {
            faultIs(sign == 'P' ? 1 : 0, String.valueOf((char) sign));
            faultIs(sign == 'P' ? 5 : 4, "P000" + (char) sign);
            faultIs(sign == 'P' || sign == 'D' ? 9 : 8, "P000P000" + (char) sign);
            faultIs(sign == 'D' ? 25 : 24, SIX + (char) sign);
            faultIs(72, SIX + EIGHT + (char) sign);
        }
    }

    /** "FAULT: the place of the first byte by which THE TEXT can be no BOOK" */
    private static void faultIsTheFirst() {
        faultIs(0, "xx");
        faultIs(1, "Pxx");
        faultIs(2, "P0x0x000");
        faultIs(4, "P000xP00x");
        faultIs(9, "P000P000D90");
        faultIs(10, "P000P000D00000");
        faultIs(12, "P000P000D01000");
        faultIs(14, "P000P000D01011xD0101x");
    }

    /** "whatever came behind it": what is a beginning of a BOOK has no fault among its bytes, and what is none has */
    private static void faultWhateverCameBehind() {
        String[] behind = {"", "P", "P000", "D01011", "0", "000", "x"};
        for (String more : behind) {
            faultIs(3, "P00x" + more);
            faultIs(10, "P000P000D00" + more);
            faultIs(12, "P000P000D0100" + more);
        }
        faultIs(NONE, "P000");
        faultIs(NONE, "P00" + "0P000");
        faultIs(NONE, "P000P000D0101" + "1");
    }

    /** "its length, if it is only not at its end; NONE: none" */
    private static void faultOfWhatIsNotAtItsEnd() {
        String[] parts = {"P100", "P200", "D01011", "P300", "D12022", "D20993", "P409", "D31994", "D03105", "P500", "P990",
            "D54016", "D45017", "D10028"};
        StringBuilder text = new StringBuilder();
        for (String part : parts) {
            for (int bytes = 1; bytes < part.length(); bytes++) {
                String beginning = text + part.substring(0, bytes);
                faultIs(beginning.length(), beginning);
            }
            text.append(part);
            faultIs(NONE, text.toString());
        }
        check.due("the longest one", 72, text.length());
    }

    /** "(its length set aside)": the longest book is 72 bytes, so THE TEXT's end, at 80, comes behind a fault always */
    private static void faultLengthSetAside() {
        faultIs(NONE, SIX + EIGHT);
        for (int more = 1; more <= 8; more++) {
            faultIs(72, SIX + EIGHT + "P0000000".substring(0, more));
            faultIs(72, SIX + EIGHT + "D0101100".substring(0, more));
        }
        // near the longest book too what is only not at its end is no more than that
        faultIs(71, SIX + EIGHT.substring(0, 42) + "D0101");
        faultIs(70, SIX + EIGHT.substring(0, 42) + "D010");
    }

    /** "At first there is nobody. THE WEEK is 0 at first" */
    private static void nobodyAtFirst() {
        DaysLent x = new DaysLent();
        check.due("people", 0, x.about(0));
        check.due("week", 0, x.about(2));
        check.due("person 0", DaysLent.UNKNOWN, x.person(0, 0));
        check.due("a week with nobody", 0, x.week());
        check.due("week", 1, x.about(2));
    }

    /** "THE WEEK is 0 .. when THE BOOK is made anew" */
    private static void weekWhenMadeAnew() {
        DaysLent x = Books.of("P100P100D01055");
        for (int week = 1; week <= 4; week++) {
            x.week();
        }
        check.due("week", 4, x.about(2));
        check.due("the same text once more", 2, x.book());
        check.due("week", 0, x.about(2));
        check.due("the debt is there again", 1, x.about(1));
        for (int week = 1; week <= 4; week++) {
            x.week();
            check.due("not due yet", 1, x.about(1));
        }
        x.week();
        check.due("due in week 5 of this book", 0, x.about(1));
    }

    /** Nothing of those that there are no more is left. */
    private static void smallerBookBehindALargerOne() {
        DaysLent x = Books.of("P999P999P999P999P999P999" + EIGHT);
        x.lend(5, 0, 9, 9);
        x.week();
        Books.rewrite(x, "P011P022D10037");
        check.due("two", 2, x.book());
        check.due("debts", 1, x.about(1));
        check.due("alive", 3, x.about(4));
        check.due("mornings of all", 3, x.about(6));
        check.due("what all owe", 3, x.about(7));
        check.due("0 owes", 3, x.person(0, 4));
        check.due("1 is owed", 3, x.person(1, 5));
        check.due("fewest", 1, x.fewest());
        check.due("falls", 1, x.falls(0));
        check.due("no ring", NONE, x.ring(0));
        check.due("all that 0 has can be had", 1, x.wish(1, 1));
        check.due("and no more", NONE, x.wish(1, 2));
        check.due("run", 3, x.run(0, 7, true));
        check.due("run", 10, x.run(0, 7, false));
        check.due("enough", 3, x.enough(0, 7, 31));
        Books.rewrite(x, "P050P060");
        check.due("two", 2, x.book());
        check.due("fewest", 0, x.fewest());
        check.due("nobody owes", 0, x.about(7));
        check.due("run", 1, x.run(0, 7, true));
        check.due("run", 1, x.run(0, 7, false));
        check.due("enough", 0, x.enough(0, 7, 100));
    }
}
