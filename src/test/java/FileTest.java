import java.util.Random;

/** Promises 38 to 40: files, and which of them are of one person. */
public final class FileTest {
    private static final int BAD = CutCity.BAD, FULL = CutCity.FULL, NONE = CutCity.NONE;
    private static final Due due = new Due("FileTest");

    public static void main(String[] args) {
        files();
        alikes();
        pairings();
        fullRooms();
        due.end();
    }

    private static void files() {
        CutCity x = new CutCity();
        due.is("38: side", x.file(2, 1, 1), BAD);
        due.is("38: side", x.file(-1, 1, 1), BAD);
        due.is("38: name", x.file(0, 10000, 1), BAD);
        due.is("38: name", x.file(0, -1, 1), BAD);
        due.is("38: age", x.file(0, 1, 100), BAD);
        due.is("38: age", x.file(0, 1, -1), BAD);
        for (int i = 0; i < 10; i++) due.is("38: file", x.file(1, 9999, 99), i);
        due.is("38: full", x.file(1, 0, 0), FULL);
        due.is("38: bad ahead of full", x.file(1, 0, 100), BAD);
        due.is("38: the other side", x.file(0, 0, 0), 0);
        due.is("59: files", x.count(13), 1);
        due.is("59: files", x.count(14), 10);
    }

    private static void alike(int name, int age, int other, int otherAge, int want) {
        CutCity x = new CutCity();
        x.file(0, name, age);
        x.file(1, other, otherAge);
        due.is("39: " + name + " " + age + ", " + other + " " + otherAge, x.alike(0, 0), want);
        CutCity y = new CutCity();
        y.file(0, other, otherAge);
        y.file(1, name, age);
        due.is("39: " + other + " " + otherAge + ", " + name + " " + age, y.alike(0, 0), want);
    }

    private static void alikes() {
        alike(1234, 30, 1234, 30, 2);
        alike(1234, 30, 1234, 31, 2);
        alike(1234, 30, 1234, 32, 0);
        alike(1234, 30, 1235, 31, 1);
        alike(1234, 30, 1235, 32, 0);
        alike(1234, 30, 9234, 30, 1);
        alike(1234, 30, 1934, 30, 1);
        alike(1234, 30, 1294, 30, 1);
        alike(1234, 30, 2134, 30, 1);
        alike(1234, 30, 1324, 30, 1);
        alike(1234, 30, 1243, 30, 1);
        alike(1234, 30, 3214, 30, 0);
        alike(1234, 30, 4231, 30, 0);
        alike(1234, 30, 1256, 30, 0);
        alike(1234, 30, 1253, 30, 0);
        alike(1234, 30, 1245, 30, 0);
        alike(1234, 30, 2143, 30, 0);
        alike(1234, 30, 1342, 30, 0);
        alike(0, 0, 1000, 1, 1);
        alike(100, 0, 1000, 0, 1);
        alike(10, 0, 1000, 0, 0);
        alike(1, 0, 10, 0, 1);
        alike(1, 0, 100, 0, 0);
        alike(9, 5, 90, 5, 1);
        alike(0, 99, 9999, 99, 0);
        CutCity x = new CutCity();
        due.is("39: none", x.alike(0, 0), BAD);
        x.file(0, 1, 1);
        due.is("39: none", x.alike(0, 0), BAD);
        x.file(1, 1, 1);
        x.file(1, 2, 1);
        due.is("39: both", x.alike(0, 1), 1);
        due.is("39: above", x.alike(1, 0), BAD);
        due.is("39: above", x.alike(0, 2), BAD);
        due.is("39: below", x.alike(-1, 0), BAD);
        due.is("39: below", x.alike(0, -1), BAD);
    }

    private static CutCity files(int[] first, int[] second) {
        CutCity x = new CutCity();
        for (int name : first) x.file(0, name, 50);
        for (int name : second) x.file(1, name, 50);
        return x;
    }

    private static void paired(String what, int[] first, int[] second, int... want) {
        CutCity x = files(first, second);
        for (int i = 0; i < want.length; i++) due.is("40: " + what + " " + i, x.pairing(i), want[i]);
        due.is("40: behind", x.pairing(2 + first.length), BAD);
        due.is("40: below", x.pairing(-1), BAD);
    }

    private static int[] of(int... names) {
        return names;
    }

    private static void pairings() {
        paired("nobody", of(), of(), 0, 0);
        paired("nobody there", of(1), of(), 0, 0, NONE);
        paired("nobody alike", of(1111, 2222), of(3333), 0, 0, NONE, NONE);
        paired("sure", of(5, 7), of(7, 5), 2, 0, 1, 0);
        paired("the first of two", of(5, 5), of(5), 1, 0, 0, NONE);
        paired("the least of two", of(5), of(5, 5), 1, 0, 0);
        paired("sure ahead of may be", of(1234), of(1235, 1234), 1, 0, 1);
        paired("one sure outweighs two that may be", of(1000, 1001), of(1001, 1011), 1, 0, NONE, 0);
        paired("most pairs that may be", of(1000, 2000), of(1001, 1002), 0, 1, 0, NONE);
        paired("none behind all", of(1000, 1001), of(1002), 0, 1, 0, NONE);
        paired("each the one it can have", of(1110, 1100), of(1111, 1120), 0, 2, 0, 1);
        paired("has to give way", of(1110, 1101), of(1111, 1120), 0, 2, 1, 0);
        paired("sure ones first, then the most that may be", of(10, 20, 30), of(30, 20, 11), 2, 1, 2, 1, 0);
        CutCity x = files(of(5), of(6));
        due.is("40: may be", x.pairing(1), 1);
        x.file(1, 5, 50);
        due.is("40: a file that came later", x.pairing(0), 1);
        due.is("40: a file that came later", x.pairing(2), 1);
        x.keep();
        x.file(0, 6, 50);
        due.is("40: two", x.pairing(0), 2);
        due.is("40: two", x.pairing(3), 0);
        x.back();
        due.is("40: one again", x.pairing(0), 1);
        due.is("40: one again", x.pairing(3), BAD);
        CutCity y = new CutCity();
        y.file(0, 7, 50);
        y.file(1, 7, 49);
        y.file(1, 7, 51);
        y.keep();
        due.is("40: another file", y.file(0, 7, 48), 1);
        due.is("40: gives way", y.pairing(2), 1);
        y.back();
        due.is("40: nothing is left of it", y.pairing(2), 0);
        due.is("40: nothing is left of it", y.pairing(0), 1);
    }

    /** Ten files of each side, with few ways to pair them, so that all can be gone through. */
    private static void fullRooms() {
        Random r = new Random(11);
        for (int run = 0; run < 40; run++) {
            CutCity x = new CutCity();
            Model m = new Model();
            for (int i = 0; i < 20; i++) {
                int name = 1000 * r.nextInt(5) + 200 * r.nextInt(2) + r.nextInt(3), age = 20 + 10 * r.nextInt(2);
                due.is("38: file", x.file(i & 1, name, age), m.file(i & 1, name, age));
            }
            for (int what = 0; what < 12; what++) due.is("40: run " + run + " " + what, x.pairing(what), m.pairing(what));
        }
        CutCity x = new CutCity();
        for (int i = 0; i < 20; i++) x.file(i & 1, 7, 7);
        due.is("40: all sure", x.pairing(0), 10);
        for (int i = 0; i < 10; i++) due.is("40: each its own", x.pairing(2 + i), i);
    }
}
