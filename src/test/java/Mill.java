import java.nio.charset.StandardCharsets;
import java.util.NoSuchElementException;

/** Makes mills from texts, for the tests. */
final class Mill {
    private Mill() {
    }

    /** A mill with this text on its tape. */
    static BlackMill fed(String text) {
        BlackMill mill = new BlackMill();
        feed(mill, text);
        return mill;
    }

    /** A mill that this text tells. */
    static BlackMill of(String text) {
        BlackMill mill = new BlackMill();
        tell(mill, 0, text);
        return mill;
    }

    /** A mill that one text tells, with a law that holds. */
    static BlackMill of(String text, String law) {
        BlackMill mill = of(text);
        tell(mill, 1, law);
        mill.law(mill.count(2) - 1);
        return mill;
    }

    static int tell(BlackMill mill, int sort, String text) {
        mill.end(0);
        feed(mill, text);
        int answer = mill.text(sort);
        if (answer == BlackMill.NONE && mill.count(2) < 4) {
            throw new IllegalStateException("refused: " + text + " at " + mill.fault(sort));
        }
        return answer;
    }

    static void feed(BlackMill mill, String text) {
        byte[] bytes = text.getBytes(StandardCharsets.ISO_8859_1);
        for (int i = 0; i < bytes.length; i += 20) {
            mill.feed(word(bytes, i), word(bytes, i + 4), word(bytes, i + 8), word(bytes, i + 12), word(bytes, i + 16));
        }
    }

    static int word(byte[] bytes, int from) {
        int word = 0;
        for (int i = from; i < from + 4; i++) {
            word = word << 8 | (i < bytes.length ? bytes[i] & 255 : 0);
        }
        return word;
    }

    static int fault(int sort, String text) {
        return fed(text).fault(sort);
    }

    static long lad(BlackMill mill, int lad, int what) {
        try {
            return mill.lad(lad, what);
        } catch (NoSuchElementException e) {
            return Check.THROWS;
        }
    }

    /** All that can be seen of a mill but what was refused and how many acts can be undone. */
    static String all(BlackMill mill) {
        StringBuilder all = new StringBuilder();
        for (int what = 0; what < 13; what++) {
            all.append(mill.count(what)).append(' ');
        }
        for (int lad = 0; lad < mill.count(0); lad++) {
            for (int what = 0; what < 9; what++) {
                all.append(lad(mill, lad, what)).append(what < 8 ? ',' : ';');
            }
        }
        for (int i = 0; i < mill.count(12); i++) {
            all.append(mill.log(i, 0)).append(',').append(mill.log(i, 1)).append(',').append(mill.log(i, 2)).append(';');
        }
        for (int what = 0; what < 4; what++) {
            all.append(mill.master(what)).append(' ');
        }
        for (int i = 0; i < mill.count(1) * 3; i++) {
            all.append(mill.way(i / 3, i % 3)).append(' ');
        }
        return all.append(mill.fault(0)).append(' ').append(mill.fault(1)).toString();
    }
}
