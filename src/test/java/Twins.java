import java.util.ArrayList;
import java.util.List;
import java.util.function.Function;
import java.util.function.Supplier;
import java.util.function.ToLongFunction;

/**
 * Two objects made alike, a call on one of them alone: if it changed nothing, both answer alike behind it, whatever is
 * asked. What is asked may itself change an object, so each look takes two new ones.
 */
final class Twins {
    private static final int MOST_ACTS = 10;

    private final Check check;
    private final List<Function<DaysLent, String>> looks = new ArrayList<>();

    Twins(Check check) {
        this.check = check;
        looks.add(Books::seen);
        looks.add(Twins::textAsBook);
        looks.add(x -> x.write(1, 'P') + " " + x.fault() + " " + textAsBook(x));
        looks.add(x -> x.wipe() + " " + x.fault() + " " + Books.seen(x));
        for (int slot = 0; slot < 2; slot++) {
            int one = slot;
            looks.add(x -> x.again(one) + " " + Books.seen(x) + " " + x.undo());
        }
        for (int back = 1; back <= MOST_ACTS + 1; back++) {
            int acts = back;
            looks.add(x -> undone(x, acts));
        }
        for (int person = 0; person < 6; person++) {
            int one = person;
            looks.add(x -> daysOf(x, one));
        }
        looks.add(Twins::reckoned);
        looks.add(Twins::wished);
        looks.add(Twins::goneOn);
    }

    void unchanged(String name, Supplier<DaysLent> made, ToLongFunction<DaysLent> call, long answer) {
        for (int look = 0; look < looks.size(); look++) {
            DaysLent called = made.get();
            DaysLent left = made.get();
            check.due(name, answer, call.applyAsLong(called));
            String want = looks.get(look).apply(left);
            String got = looks.get(look).apply(called);
            check.isTrue(name + " changes nothing, look " + look + ": " + got + " is " + want, want.equals(got));
        }
    }

    private static String textAsBook(DaysLent x) {
        return x.fault() + " " + x.book() + " " + Books.seen(x);
    }

    private static String undone(DaysLent x, int acts) {
        StringBuilder all = new StringBuilder();
        for (int act = 0; act < acts; act++) {
            all.append(x.undo()).append(' ');
        }
        return all.append(Books.seen(x)).toString();
    }

    /** A day that is taken once more shows if it was TAKEN or SEEN. */
    private static String daysOf(DaysLent x, int person) {
        StringBuilder all = new StringBuilder();
        for (int day = 0; day <= 5; day++) {
            all.append(x.day(person, day, false)).append(' ').append(x.cheats()).append(' ');
        }
        return all.append(x.forget()).toString();
    }

    private static String reckoned(DaysLent x) {
        StringBuilder all = new StringBuilder();
        all.append(x.fewest()).append(' ');
        for (int set = 0; set <= 64; set++) {
            all.append(x.falls(set)).append(' ');
        }
        for (int person = 0; person <= 6; person++) {
            all.append("| ").append(x.ring(person)).append(' ').append(x.room(person)).append(' ');
            for (int tenths = 1; tenths <= 9; tenths += 2) {
                all.append(x.run(person, tenths, true)).append('/').append(x.run(person, tenths, false)).append(' ');
                all.append(x.enough(person, tenths, 60)).append(' ');
            }
        }
        return all.toString();
    }

    private static String wished(DaysLent x) {
        StringBuilder all = new StringBuilder();
        for (int person = 0; person <= 6; person++) {
            for (int a = 1; a <= 99; a += 14) {
                all.append(x.wish(person, a)).append(' ');
            }
            for (int other = 0; other <= 6; other++) {
                all.append(x.wishBy(person, 25, other)).append(' ');
            }
        }
        return all.toString();
    }

    /** Ten more acts, so that it shows if the row of acts was moved. */
    private static String goneOn(DaysLent x) {
        StringBuilder all = new StringBuilder();
        for (int i = 0; i < 3; i++) {
            all.append(x.lend(i, i + 1, 2 + i, 1 + i)).append(' ').append(x.about(3)).append(' ');
        }
        for (int week = 0; week < 6; week++) {
            all.append(x.week()).append(' ').append(x.about(1)).append(' ').append(x.about(6)).append(' ');
        }
        all.append(x.heirs(0, 2)).append(' ').append(x.jubilee()).append(' ');
        return all.append(Books.seen(x)).toString();
    }
}
