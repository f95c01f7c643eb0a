import java.util.Random;

/** Promises 2 and 3: feed, end. */
public final class TapeTest {
    public static void main(String[] args) {
        bytesInOrder();
        room();
        ends();
        fullBetweenFeeds();
        readTapesAreEmpty();
        Due.end();
    }

    private static void bytesInOrder() {
        WardWatch x = new WardWatch();
        Due.is("feed", x.feed(0x6c656176, 0x65203132, 0x3b666f6c, 0x6c6f7720, 0x3334353b), 20);
        Due.is("laws", x.laws(1), 2);
        Due.is("leave", x.law(1, 2), 12);
        Due.is("follow", x.law(1, 5), 345);
        Due.is("feed of high bytes", x.feed(-1, -1, -1, -1, -1), 20);
        Due.is("laws of high bytes", x.laws(1), -1);
        Due.is("place of a high byte", x.fault(1), 0);
    }

    private static void room() {
        WardWatch x = new WardWatch();
        for (int i = 1; i <= 40; i++) {
            Due.is("feed " + i, x.feed(0x20202020, 0x20202020, 0x20202020, 0x20202020, 0x20202020), 20 * i);
            Due.is("count(2)", x.count(2), 20 * i);
        }
        Due.is("feed 41", x.feed(0, 0, 0, 0, 0), -3);
        Due.is("count(2) behind FULL", x.count(2), 800);
        Due.is("blanks alone are no lines", x.laws(0), 0);
    }

    private static void ends() {
        WardWatch x = new WardWatch();
        x.feed(0x61676520, 0x31203220, 0x3b202020, 0x20202020, 0x20202020);
        for (int n : new int[] {21, 800, Integer.MAX_VALUE, -1, -20, Integer.MIN_VALUE}) {
            Due.is("end(" + n + ")", x.end(n), -1);
            Due.is("count(2) behind end(" + n + ")", x.count(2), 20);
        }
        Due.is("end(20)", x.end(20), 20);
        Due.is("end(9)", x.end(9), 9);
        Due.is("count(2)", x.count(2), 9);
        Due.is("end(10): cut bytes don't come back", x.end(10), -1);
        Due.is("laws", x.laws(2), 1);
        Due.is("age", x.law(2, 1), 2);
    }

    private static void fullBetweenFeeds() {
        Random random = new Random(3);
        WardWatch x = new WardWatch();
        int length = 0;
        for (int i = 0; i < 200; i++) {
            if (random.nextInt(4) == 0) {
                int n = random.nextInt(length + 2);
                Due.is("end(" + n + ")", x.end(n), n <= length ? n : -1);
                length = Math.min(n, length);
            } else {
                Due.is("feed at " + length, x.feed(i, i, i, i, i), length + 20 <= 800 ? length + 20 : -3);
                length += length + 20 <= 800 ? 20 : 0;
            }
        }
        Due.is("count(2)", x.count(2), length);
        Due.is("end(0)", x.end(0), 0);
        for (int i = 1; i <= 40; i++) {
            x.feed(0, 0, 0, 0, 0);
        }
        Due.is("end(781)", x.end(781), 781);
        Due.is("feed at 781", x.feed(0, 0, 0, 0, 0), -3);
        Due.is("end(780)", x.end(780), 780);
        Due.is("feed at 780", x.feed(0, 0, 0, 0, 0), 800);
    }

    private static void readTapesAreEmpty() {
        WardWatch x = new WardWatch();
        for (int wrong : new int[] {4, -1, Integer.MAX_VALUE, Integer.MIN_VALUE}) {
            Due.lay(x, "leave 3;");
            Due.is("laws(" + wrong + ")", x.laws(wrong), -2);
            Due.is("laws of no such ward", x.count(2), 0);
            Due.is("feed behind laws of no such ward", x.feed(0, 0, 0, 0, 0), 20);
        }
        Due.lay(x, "leave 3;");
        Due.is("laws(3)", x.laws(3), 1);
        Due.is("read laws", x.count(2), 0);
        Due.lay(x, "leave");
        Due.is("laws(3)", x.laws(3), -1);
        Due.is("read faulty laws", x.count(2), 0);
        Due.lay(x, "AB");
        Due.is("flee", x.flee(false), -1);
        Due.is("read no row", x.count(2), 0);
        x.way(0, 1, 1);
        Due.lay(x, "AB");
        Due.is("flee", x.flee(false), 2);
        Due.is("read row", x.count(2), 0);
    }
}
