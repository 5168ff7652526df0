/** Words as bytes of the tape, twelve by twelve. */
final class Feeder {
    interface Feed {
        int feed(int a, int b, int c);
    }

    interface Trim {
        int trim(int n);
    }

    static int feed(String word, Feed feed, Trim trim, int before) {
        for (int i = 0; i < word.length(); i += 12) feed.feed(four(word, i), four(word, i + 4), four(word, i + 8));
        return trim.trim(before + word.length());
    }

    static int four(String word, int from) {
        int v = 0;
        for (int i = from; i < from + 4; i++) v = v << 8 | (i < word.length() ? word.charAt(i) & 255 : 0);
        return v;
    }

    private Feeder() {
    }
}
