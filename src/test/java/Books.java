/** Makes objects and writes texts, so that tests can tell books as strings. */
final class Books {
    private Books() {
    }

    /** The bytes of up to eight signs as the number that write takes. */
    static long packed(String signs) {
        long v = 0;
        for (int i = 0; i < signs.length(); i++) {
            v = v << 8 | signs.charAt(i) & 0xFF;
        }
        return v;
    }

    static void write(DaysLent x, String text) {
        for (int at = 0; at < text.length(); at += 8) {
            String piece = text.substring(at, Math.min(at + 8, text.length()));
            x.write(piece.length(), packed(piece));
        }
    }

    static void rewrite(DaysLent x, String text) {
        x.wipe();
        write(x, text);
    }

    static DaysLent of(String text) {
        DaysLent x = new DaysLent();
        write(x, text);
        if (x.book() < 0) {
            throw new IllegalStateException("no book: " + text);
        }
        return x;
    }

    /** All that can be asked of an object without changing it, but for what takes arguments of many kinds. */
    static String seen(DaysLent x) {
        StringBuilder all = new StringBuilder();
        for (int what = 0; what <= 9; what++) {
            all.append(x.about(what)).append(' ');
        }
        for (int person = 0; person < x.about(0); person++) {
            all.append("| ");
            for (int what = 0; what <= 6; what++) {
                all.append(x.person(person, what)).append(' ');
            }
        }
        for (int debt = 0; debt < x.about(1); debt++) {
            all.append("/ ");
            for (int what = 0; what <= 3; what++) {
                all.append(x.debt(debt, what)).append(' ');
            }
        }
        return all.append(x.cheats()).toString();
    }
}
