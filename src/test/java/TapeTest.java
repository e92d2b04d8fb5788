/** Promises 1 to 3: a new object, feed, end. */
public final class TapeTest {
    public static void main(String[] args) {
        newObject();
        feeding();
        ending();
        bytesInOrder();
        Due.end();
    }

    private static void newObject() {
        ToffeeTown x = new ToffeeTown();
        Due.due("NONE", ToffeeTown.NONE, -1);
        for (int what = 0; what <= 15; what++) {
            Due.due("new: count(" + what + ")", x.count(what), what == 5 ? -1 : 0);
        }
        Due.due("new: force(0)", x.force(0), -2);
        Due.due("new: day()", x.day(), -1);
        Due.due("new: back(0)", x.back(0), -1);
        Due.due("new: undo()", x.undo(), -2);
    }

    private static void feeding() {
        ToffeeTown x = new ToffeeTown();
        for (int times = 1; times <= 20; times++) {
            Due.due("feed", x.feed(-1, 0, 1, Integer.MIN_VALUE, Integer.MAX_VALUE), 20 * times);
        }
        Due.due("feed beyond 400", x.feed(0, 0, 0, 0, 0), -1);
        Due.due("bytes", x.count(15), 400);
        Due.due("end(381)", x.end(381), 381);
        Due.due("feed beyond 400", x.feed(0, 0, 0, 0, 0), -1);
        Due.due("end(380)", x.end(380), 380);
        Due.due("feed to 400", x.feed(0, 0, 0, 0, 0), 400);
    }

    private static void ending() {
        ToffeeTown x = new ToffeeTown();
        Due.due("end(0)", x.end(0), 0);
        Due.due("end(1)", x.end(1), -1);
        Due.due("end(-1)", x.end(-1), -1);
        x.feed(0, 0, 0, 0, 0);
        Due.due("end(-1)", x.end(-1), -1);
        Due.due("end(21)", x.end(21), -1);
        Due.due("bytes", x.count(15), 20);
        Due.due("end(20)", x.end(20), 20);
        Due.due("end(7)", x.end(7), 7);
        Due.due("bytes", x.count(15), 7);
        Due.due("end(8)", x.end(8), -1);
        Due.due("feed", x.feed(0, 0, 0, 0, 0), 27);
    }

    private static void bytesInOrder() {
        ToffeeTown x = new ToffeeTown();
        // "town", " 7 9", " 3;h", "ouse", " 6  "
        x.feed(0x746f776e, 0x20372039, 0x20333b68, 0x6f757365, 0x20362020);
        Due.due("town", x.town(), 1);
        Due.due("HILL", x.count(0), 7);
        Due.due("SUGAR", x.count(8), 9);
        Due.due("STICK", x.count(1), 3);
        Due.due("PLACE", x.house(0, 0), 6);
        Due.due("the TAPE is empty", x.count(15), 0);
    }
}
