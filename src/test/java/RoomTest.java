import java.lang.reflect.Array;
import java.lang.reflect.Field;
import java.lang.reflect.Modifier;
import java.nio.file.Files;
import java.nio.file.Path;
import java.util.ArrayDeque;
import java.util.Collections;
import java.util.Deque;
import java.util.IdentityHashMap;
import java.util.Set;

/** All calls of one run live in one room: an object is small, and calls make nothing more. */
public final class RoomTest {
    private static final Check check = new Check("RoomTest");
    private static final int MOST_OBJECTS = 130;
    private static final int MOST_CELLS = 2200;

    public static void main(String[] args) throws Exception {
        anObjectIsSmall();
        callsLeaveNothing();
        newStandsInConstructorsAlone();
        check.end();
    }

    /** How many objects and arrays there are, and their fields and elements. */
    private static int[] measured(DaysLent x) throws Exception {
        Set<Object> met = Collections.newSetFromMap(new IdentityHashMap<>());
        Deque<Object> open = new ArrayDeque<>();
        met.add(x);
        open.add(x);
        int cells = 0;
        while (!open.isEmpty()) {
            Object one = open.remove();
            cells += one.getClass().isArray() ? elements(one, met, open) : fields(one, met, open);
        }
        return new int[] {met.size(), cells};
    }

    private static int elements(Object array, Set<Object> met, Deque<Object> open) {
        int length = Array.getLength(array);
        if (!array.getClass().getComponentType().isPrimitive()) {
            for (int i = 0; i < length; i++) {
                meet(Array.get(array, i), met, open);
            }
        }
        return length;
    }

    private static int fields(Object one, Set<Object> met, Deque<Object> open) throws Exception {
        int count = 0;
        for (Field field : one.getClass().getDeclaredFields()) {
            if (Modifier.isStatic(field.getModifiers())) {
                continue;
            }
            count++;
            if (!field.getType().isPrimitive()) {
                field.setAccessible(true);
                meet(field.get(one), met, open);
            }
        }
        return count;
    }

    private static void meet(Object one, Set<Object> met, Deque<Object> open) {
        if (one != null && met.add(one)) {
            open.add(one);
        }
    }

    private static void anObjectIsSmall() throws Exception {
        int[] size = measured(new DaysLent());
        check.isTrue("few objects: " + size[0], size[0] <= MOST_OBJECTS);
        check.isTrue("few fields and elements: " + size[1], size[1] <= MOST_CELLS);
    }

    /** Nearly 512 calls, of every kind: what can be reached from the object is as much as it was. */
    private static void callsLeaveNothing() throws Exception {
        DaysLent x = new DaysLent();
        int[] before = measured(x);
        Books.write(x, "P302P051P209P000P991P104D01051D12102D03011D45203D54079D24304D40122");
        x.book();
        int calls = 10;
        for (int round = 0; calls + 24 <= 512; round++) {
            calls += 24;
            allKinds(x, round);
        }
        int[] after = measured(x);
        check.due("objects", before[0], after[0]);
        check.due("fields and elements", before[1], after[1]);
    }

    private static void allKinds(DaysLent x, int round) {
        int one = round % 6;
        int other = (round + 1) % 6;
        x.write(1, 'P');
        x.fault();
        x.about(round % 10);
        x.person(one, round % 7);
        x.debt(one, round % 4);
        x.ask(one, round % 10);
        x.lend(one, other, 2, 1 + round % 9);
        x.week();
        x.heirs(one, round % 7 == 0 ? 1 << other : 0);
        x.jubilee();
        x.undo();
        x.fewest();
        x.falls(1 << one);
        x.ring(one);
        x.room(one);
        x.wish(one, 1 + round);
        x.wishBy(one, 1 + round, other);
        x.run(one, 3, true);
        x.enough(one, 3, 50);
        x.day(one, 4, true);
        x.cheats();
        x.forget();
        x.keep(round % 2);
        x.again(round % 2);
    }

    /** What a call made and let go cannot be reached, so the source is looked at: fields, or rows of a constructor. */
    private static void newStandsInConstructorsAlone() throws Exception {
        String path = System.getProperty("dayslent.source", "src/main/java/DaysLent.java");
        int found = 0;
        boolean inConstructor = false;
        for (String line : Files.readAllLines(Path.of(path))) {
            if (line.matches(" +[A-Z]\\w*\\(\\) \\{")) {
                inConstructor = true;
            } else if (line.matches(" {8}\\}")) {
                inConstructor = false;
            }
            if (line.matches(".*\\bnew [A-Za-z].*")) {
                found++;
                boolean isField = line.matches(" +(private )?final [\\w\\[\\]]+ \\w+ = new .*;");
                check.isTrue("made with the object: " + line.trim(), isField || inConstructor);
            }
            check.isTrue("no row is written out in a call: " + line.trim(), !line.matches(".*[=(,] *\\{.*"));
            check.isTrue("no copy is made: " + line.trim(), !line.matches(".*(\\.clone\\(|copyOf|StringBuilder|\"\").*"));
        }
        check.isTrue("some were found", found > 0);
    }
}
