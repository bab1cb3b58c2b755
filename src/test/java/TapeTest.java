/** Promises 1, 2, 3 and count(4). */
public final class TapeTest {
    private static final Due DUE = new Due("TapeTest");

    public static void main(String[] args) {
        newObject();
        feed();
        end();
        emptiedByReaders();
        bytesAreUnsigned();
        DUE.end();
    }

    private static void newObject() {
        RegionRooms x = new RegionRooms();
        DUE.is("NONE", RegionRooms.NONE, -1);
        for (int what = 0; what <= 4; what++) {
            DUE.is("count(" + what + ") of a new one", x.count(what), 0);
        }
        DUE.is("count(-1)", x.count(-1), -1);
        DUE.is("count(5)", x.count(5), -1);
        DUE.is("fault() ahead of any", x.fault(), 0);
        for (int what = 0; what <= 11; what++) {
            DUE.is("now(" + what + ")", x.now(what), what == 3 || what == 4 || what == 11 ? -1 : 0);
        }
        DUE.is("gave()", x.gave(), 0);
    }

    private static void feed() {
        RegionRooms x = new RegionRooms();
        for (int i = 1; i <= 47; i++) {
            DUE.is("feed " + i, x.feed(0, 0, 0, 0, 0), 20 * i);
        }
        DUE.is("feed beyond 940", x.feed(0, 0, 0, 0, 0), -1);
        DUE.is("bytes then", x.count(4), 940);
        DUE.is("end(921)", x.end(921), true);
        DUE.is("feed to 941", x.feed(0, 0, 0, 0, 0), -1);
        DUE.is("none came", x.count(4), 921);
        DUE.is("end(920)", x.end(920), true);
        DUE.is("feed to 940", x.feed(0, 0, 0, 0, 0), 940);
    }

    private static void end() {
        RegionRooms x = new RegionRooms();
        DUE.is("end(0) of an empty tape", x.end(0), true);
        DUE.is("end(1) of an empty tape", x.end(1), false);
        x.feed(1, 2, 3, 4, 5);
        DUE.is("end(-1)", x.end(-1), false);
        DUE.is("end(21)", x.end(21), false);
        DUE.is("end(MAX)", x.end(Integer.MAX_VALUE), false);
        DUE.is("end(MIN)", x.end(Integer.MIN_VALUE), false);
        DUE.is("it stays", x.count(4), 20);
        DUE.is("end(20)", x.end(20), true);
        DUE.is("end(7)", x.end(7), true);
        DUE.is("bytes", x.count(4), 7);
        DUE.is("end(8)", x.end(8), false);
        DUE.is("feed behind 7", x.feed(0, 0, 0, 0, 0), 27);
    }

    /** program(), sentence(), load() and run() take the tape, whatever they answer. */
    private static void emptiedByReaders() {
        RegionRooms x = new RegionRooms();
        Due.feed(x, "fun main n; a is n;");
        DUE.is("program()", x.program(), 2);
        DUE.is("empty behind program()", x.count(4), 0);
        Due.feed(x, "fun");
        DUE.is("program() with a FAULT", x.program(), -4);
        DUE.is("empty behind a FAULT", x.count(4), 0);
        Due.feed(x, "finite");
        DUE.is("sentence()", x.sentence(), 1);
        DUE.is("empty behind sentence()", x.count(4), 0);
        Due.feed(x, "finit");
        DUE.is("sentence() with a FAULT", x.sentence(), -1);
        DUE.is("empty behind its FAULT", x.count(4), 0);
        DUE.is("load()", Due.load(x, 1), true);
        DUE.is("empty behind load()", x.count(4), 0);
        DUE.is("load() of two", Due.load(x, 1, 2), false);
        DUE.is("empty behind load() that is false", x.count(4), 0);
        DUE.is("run()", Due.run(x, 1), 2);
        DUE.is("empty behind run()", x.count(4), 0);
        DUE.is("run() of two", Due.run(x, 1, 2), -1);
        DUE.is("empty behind run() that is NONE", x.count(4), 0);
        Due.feed(x, "ab");
        DUE.is("odds()", x.odds(1, 1), 1);
        DUE.is("odds() leaves the tape", x.count(4), 2);
    }

    private static void bytesAreUnsigned() {
        RegionRooms x = DUE.with("fun main a b c; s is sum a b; t is sum s c;");
        x.feed(0xff80017f, 0, 0, 0, 0);
        x.end(3);
        DUE.is("load()", x.load(), true);
        DUE.is("the highest byte comes first", x.value(0, 0), 255);
        DUE.is("a byte above 127", x.value(0, 1), 128);
        DUE.is("the third byte", x.value(0, 2), 1);
    }
}
