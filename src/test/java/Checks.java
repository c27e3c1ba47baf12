/** Counts answers that are not as due, and tells texts to an object by its tape. */
final class Checks {
    private final String name;
    private String about = "";
    private int asked = 0;
    private int wrong = 0;

    Checks(String name) {
        this.name = name;
    }

    /** The words of the document that the answers asked next are about; they are told with a wrong one. */
    void about(String words) {
        about = words.isEmpty() ? "" : "\"" + words + "\": ";
    }

    void due(String call, long got, long want) {
        asked++;
        if (got != want) {
            wrong++;
            System.out.println(name + ": " + about + call + " answered " + got + ", due is " + want);
        }
    }

    void due(String call, boolean got, boolean want) {
        due(call, got ? 1 : 0, want ? 1 : 0);
    }

    void end() {
        System.out.println(name + ": " + asked + " answers asked, " + wrong + " not as due");
        if (wrong != 0) {
            System.exit(1);
        }
    }

    /** Feeds the text, padded to twenties with a sign that no text may hold. */
    static void feed(HeelHounds hunt, String text) {
        for (int start = 0; start < text.length(); start += 20) {
            int[] words = new int[5];
            for (int i = 0; i < 20; i++) {
                int sign = start + i < text.length() ? text.charAt(start + i) : '#';
                words[i / 4] = words[i / 4] << 8 | sign;
            }
            hunt.feed(words[0], words[1], words[2], words[3], words[4]);
        }
    }

    static int line(HeelHounds hunt, int c, int x, int y, int from, String text) {
        feed(hunt, text);
        return hunt.line(c, x, y, from, text.length());
    }

    static int land(HeelHounds hunt, String text) {
        feed(hunt, text);
        return hunt.land(text.length());
    }

    static int law(HeelHounds hunt, String text) {
        feed(hunt, text);
        return hunt.law(text.length());
    }

    static int place(int x, int y) {
        return 16 * y + x;
    }

    /** The finds of COULD IT BE: a PLACE and a time each. */
    static void feedFinds(HeelHounds hunt, int... placesAndTimes) {
        StringBuilder text = new StringBuilder();
        for (int i = 0; i + 1 < placesAndTimes.length; i += 2) {
            text.append((char) placesAndTimes[i]);
            text.append((char) (placesAndTimes[i + 1] & 255));
            text.append((char) (placesAndTimes[i + 1] >> 8));
        }
        feed(hunt, text.toString());
    }
}
