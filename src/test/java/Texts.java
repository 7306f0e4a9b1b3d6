/** Puts texts on the tape: each feed() takes twenty bytes, so the last ones may be blanks. */
final class Texts {
    private Texts() {
    }

    static int feed(CourtProgress x, String text) {
        int size = x.count(7);
        for (int at = 0; at < text.length(); at += 20) {
            size = x.feed(four(text, at), four(text, at + 4), four(text, at + 8), four(text, at + 12), four(text, at + 16));
        }
        return size;
    }

    static int ordain(CourtProgress x, int day, String text) {
        feed(x, text);
        return x.ordinance(day, text.length());
    }

    static int four(String text, int at) {
        int number = 0;
        for (int i = at; i < at + 4; i++) {
            number = number << 8 | (i < text.length() ? text.charAt(i) & 255 : 32);
        }
        return number;
    }

    static String times(String text, int many, String between) {
        StringBuilder all = new StringBuilder();
        for (int i = 0; i < many; i++) {
            all.append(i == 0 ? "" : between).append(text);
        }
        return all.toString();
    }
}
