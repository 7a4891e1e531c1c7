/** Promises 15 to 18: fewest, falls, ring, room. */
public final class SettledTest {
    private static final Check check = new Check("SettledTest");

    public static void main(String[] args) {
        promise15Fewest();
        promise15FewestChangesNothing();
        promise16Falls();
        promise16FallsRefusals();
        promise17Ring();
        promise18Room();
        promise18RoomFirstByNumber();
        check.end();
    }

    private static void fewest(String book, int want) {
        check.due("fewest of " + book, want, Books.of(book).fewest());
    }

    private static void promise15Fewest() {
        fewest("", 0);
        fewest("P000", 0);
        fewest("P000P000P000", 0);
        fewest("P000P000D01051", 1);
        fewest("P000P000D01051D10051", 0);
        fewest("P000P000D01051D10041", 1);
        fewest("P000P000P000D01051D12051", 1);
        fewest("P000P000P000D01051D12051D20051", 0);
        fewest("P000P000P000D01051D12031", 2);
        fewest("P000P000P000P000D01051D23051", 2);
        fewest("P000P000P000P000D01051D23041", 2);
        fewest("P000P000P000P000D01051D02041D03031", 3);
        // nets 5 3 -1 -7: one group of four
        fewest("P000P000P000P000D02011D03041D13031", 3);
        // nets 5 3 -5 -3, and 5 3 -3 -5: two groups, though all owe across them
        fewest("P000P000P000P000D02031D03021D12021D13011", 2);
        fewest("P000P000P000P000D03031D02021D13021D12011", 2);
        fewest("P000P000P000P000D03031D02021D13021", 2);
        String six = "P000P000P000P000P000P000";
        fewest(six + "D01051D02041D03031D04021D05011", 5);
        // nets 7 2 -4 -5 3 -3: three of them, and three, or two, and four
        fewest(six + "D02041D03031D13021D45031", 4);
        fewest(six + "D03011D14021D25031", 3);
        fewest(six + "D03011D04021D14011D15021D25041", 4);
    }

    private static void promise15FewestChangesNothing() {
        DaysLent x = Books.of("P100P200P300D01051D12031D20041");
        String before = Books.seen(x);
        x.fewest();
        x.falls(3);
        x.ring(0);
        x.room(1);
        check.isTrue("nothing changed", before.equals(Books.seen(x)));
    }

    private static void promise16Falls() {
        check.due("just enough, if all pay", 0, Books.of("P000P050P050D01051D12101D20051").falls(0));
        check.due("2 lacks one", 4, Books.of("P000P050P040D01051D12101D20051").falls(0));
        DaysLent ring = Books.of("P000P000P000D01991D12991D20991");
        check.due("a ring pays itself", 0, ring.falls(0));
        check.due("with 0 all fall", 7, ring.falls(1));
        check.due("with all", 7, ring.falls(7));
        DaysLent row = Books.of("P000P000P040P000D01051D12051D23011");
        check.due("3 falls, and 2 lacks one, and 1", 14, row.falls(0));
        DaysLent just = Books.of("P000P000P040P010D01051D12051D23011");
        check.due("just enough", 0, just.falls(0));
        check.due("with 3 all that lean on it", 14, just.falls(8));
        check.due("with 0, that owes nothing", 1, just.falls(1));
        check.due("with 2", 6, just.falls(4));
        DaysLent far = Books.of("P990P000P000P000P000P000D54011D43011D32011D21011D10011");
        check.due("0 pays for all", 0, far.falls(0));
        check.due("the fall goes all the way, but to 5, that owes nothing", 31, far.falls(1));
        far.heirs(0, 2);
        check.due("the dead do not fall", 0, far.falls(0));
        check.due("but if they are told", 1, far.falls(1));
    }

    private static void promise16FallsRefusals() {
        DaysLent x = Books.of("P000P000P000");
        check.due("falls(8)", DaysLent.BAD, x.falls(8));
        check.due("falls(9)", DaysLent.BAD, x.falls(9));
        check.due("falls(-1)", DaysLent.BAD, x.falls(-1));
        check.due("falls(min)", DaysLent.BAD, x.falls(Integer.MIN_VALUE));
        check.due("falls(7)", 7, x.falls(7));
        check.due("falls(0)", 0, x.falls(0));
    }

    private static void promise17Ring() {
        DaysLent two = Books.of("P000P000P000D01051D10041");
        check.due("two", 2, two.ring(0));
        check.due("two", 2, two.ring(1));
        check.due("none", DaysLent.NONE, two.ring(2));
        check.due("unknown", DaysLent.UNKNOWN, two.ring(3));
        check.due("unknown", DaysLent.UNKNOWN, two.ring(-1));
        DaysLent six = Books.of("P000P000P000P000P000P000D01011D12011D23011D34011D45011D50011");
        for (int person = 0; person < 6; person++) {
            check.due("six", 6, six.ring(person));
        }
        DaysLent back = Books.of("P000P000P000P000P000P000D10011D21011D32011D43011D54011D05011");
        for (int person = 0; person < 6; person++) {
            check.due("six the other way", 6, back.ring(person));
        }
        six = Books.of("P000P000P000P000P000P000D01011D12011D23011D34011D45011D50011D02011");
        check.due("past 1", 5, six.ring(0));
        check.due("through 1", 6, six.ring(1));
        // 3 owes into a ring, but nothing comes back to it
        DaysLent into = Books.of("P000P000P000P000D01051D12041D20031D03019");
        check.due("three", 3, into.ring(2));
        check.due("none", DaysLent.NONE, into.ring(3));
        DaysLent out = Books.of("P000P000P000P000D01051D12041D20031D30019");
        check.due("none", DaysLent.NONE, out.ring(3));
        DaysLent eight = Books.of("P000P000P000D01051D10051D02051D20051");
        check.due("through 0 twice is no ring of 1", 2, eight.ring(1));
        check.due("new", DaysLent.UNKNOWN, new DaysLent().ring(0));
    }

    private static void promise18Room() {
        DaysLent two = Books.of("P000P000P000D01051D10041");
        check.due("least", 4, two.room(0));
        check.due("least", 4, two.room(1));
        check.due("none", DaysLent.NONE, two.room(2));
        check.due("unknown", DaysLent.UNKNOWN, two.room(3));
        check.due("unknown", DaysLent.UNKNOWN, two.room(-1));
        DaysLent six = Books.of("P000P000P000P000P000P000D01091D12081D23071D34061D45051D50041");
        check.due("least of six", 4, six.room(3));
        six = Books.of("P000P000P000P000P000P000D01091D12081D23071D34041D45051D50061");
        check.due("least of six", 4, six.room(0));
    }

    private static void promise18RoomFirstByNumber() {
        // 0 owes 1 twice, and 1 owes 0 twice: the first of each
        DaysLent x = Books.of("P000P000D10091D10011D01021D01081");
        check.due("first ones", 2, x.room(0));
        check.due("first ones", 2, x.room(1));
        // the first debt of 0 leads to no shortest ring
        DaysLent y = Books.of("P000P000P000D10011D21031D20071D02051D01991");
        check.due("a ring of two by debt 0 and 4", 1, y.room(0));
        DaysLent z = Books.of("P000P000P000D10011D21031D20071D02051");
        check.due("a ring of two by debt 2 and 3", 5, z.room(0));
        check.due("a ring of three from 1", 1, z.room(1));
        // two rings of three from 0: by its debts 0, and by 1; the first one's number comes first
        DaysLent w = Books.of("P000P000P000P000D20091D10071D03051D31061D32041");
        check.due("by 2", 4, w.room(0));
        // the first debt is one for both, the second one's number tells
        DaysLent v = Books.of("P000P000P000P000D02061D03091D31081D21051D10071");
        check.due("by 0, 2 ..: 3 ahead of 2", 7, v.room(0));
    }
}
