/** The edges of 'Terms', MEMORY, and of promises 1 to 4; what is refused there is in RefusedTest. */
public final class EdgesOfMemoryTest implements Acts {
    private static final Due DUE = new Due("EdgesOfMemoryTest");

    public static void main(String[] args) {
        memoryOfZeroAtFirst();
        noRoutinesAtFirst();
        nothingElseAtFirst();
        placesFromFirstToLast();
        bytesFromFirstToLast();
        pagesOfSixteenPlaces();
        pagesAtTheirBorders();
        putOfEachLength();
        putTakesTheLowestBytes();
        putHighestFirst();
        putOverTheEnd();
        putUpToTheEnd();
        putDropsNoneToTen();
        putDropsOverTheEnd();
        writeFirstAndLast();
        writeDropsNoneToTen();
        readFirstAndLast();
        DUE.end();
    }

    /** "MEMORY of 0", "(0 at first)". */
    private static void memoryOfZeroAtFirst() {
        SelfChange x = new SelfChange();
        for (int place = 0; place < 256; place++) {
            DUE.answer("read(" + place + ") at first", x.read(place), 0);
        }
    }

    /** "no ROUTINES". */
    private static void noRoutinesAtFirst() {
        SelfChange x = new SelfChange();
        DUE.answer("ROUTINES at first", x.count(0), 0);
        DUE.answer("member(0, 6) at first", x.member(0, 6), -1);
        DUE.answer("head(0, 0) at first", x.head(0, 0), -1);
        DUE.answer("makeable(0) at first", x.makeable(0), -1);
        DUE.answer("run(0, ..) at first", x.run(0, 0, 0, 1), -1);
        DUE.answer("alike(0, ..) at first", x.alike(0, 0, 0, 1), -1);
        DUE.answer("make() at first", x.make(), 0);
        DUE.answer("clear() at first", x.clear(), 0);
    }

    private static void nothingElseAtFirst() {
        SelfChange x = new SelfChange();
        for (int what = 0; what < 9; what++) {
            DUE.answer("count(" + what + ") at first", x.count(what), 0);
            DUE.answer("ran(" + what + ") at first", x.ran(what), 0);
        }
        DUE.answer("restore(0) at first", x.restore(0), -1);
        DUE.answer("undo() at first", x.undo(), -3);
        DUE.exception("share() at first", ArithmeticException.class, x::share);
    }

    /** "places 0 .. 255, a byte .. at each": no two places are one. */
    private static void placesFromFirstToLast() {
        SelfChange x = new SelfChange();
        for (int place = 0; place < 256; place += 8) {
            long w = 0;
            for (int i = 0; i < 8; i++) {
                w = w << 8 | 255 - place - i;
            }
            x.put(place, w, 8);
        }
        for (int place = 0; place < 256; place++) {
            DUE.answer("read(" + place + ")", x.read(place), 255 - place);
        }
    }

    /** "a byte 0 .. 255". */
    private static void bytesFromFirstToLast() {
        SelfChange x = new SelfChange();
        for (int v = 255; v >= 0; v--) {
            x.write(7, v);
            DUE.answer("the byte " + v, x.read(7), v);
        }
    }

    /** "PAGES 0 .. 15 of 16 places": each page's first and last place, and no other page. */
    private static void pagesOfSixteenPlaces() {
        for (int place = 0; place < 256; place++) {
            SelfChange x = Stories.made(place);
            for (int page = 0; page < 16; page++) {
                DUE.answer("page(" + page + ") of a member at " + place, x.page(page), page == place / 16 ? 1 : 0);
            }
        }
    }

    /** An act whose second byte lies in the next page, of the last page too. */
    private static void pagesAtTheirBorders() {
        for (int page = 0; page < 16; page++) {
            int next = (page + 1) % 16;
            SelfChange x = Stories.made(16 * page + 15, GO, 254);
            for (int other = 0; other < 16; other++) {
                int want = other == page || other == next ? 1 : 0;
                DUE.answer("page(" + other + ") of an act over " + page + "'s end", x.page(other), want);
            }
        }
    }

    /** "Up to eight bytes": so many, and not one before or behind. */
    private static void putOfEachLength() {
        for (int n = 1; n <= 8; n++) {
            SelfChange x = new SelfChange();
            DUE.answer("put of " + n, x.put(100, -1L, n), 0);
            for (int place = 99; place <= 108; place++) {
                int want = place >= 100 && place < 100 + n ? 255 : 0;
                DUE.answer("read(" + place + ") behind a put of " + n, x.read(place), want);
            }
        }
    }

    /** "the lowest n of w": what is higher counts not. */
    private static void putTakesTheLowestBytes() {
        for (int n = 1; n <= 8; n++) {
            SelfChange x = new SelfChange();
            x.put(100, 0x1122334455667788L, n);
            for (int i = 0; i < n; i++) {
                DUE.answer("byte " + i + " of the lowest " + n, x.read(100 + i), 0x11 * (9 - n + i));
            }
        }
    }

    /** "the highest of these first", of the least and the most long too. */
    private static void putHighestFirst() {
        SelfChange x = new SelfChange();
        x.put(8, Long.MIN_VALUE, 8);
        x.put(16, Long.MAX_VALUE, 8);
        x.put(24, 1L, 8);
        DUE.answer("the least long's first", x.read(8), 128);
        DUE.answer("the least long's last", x.read(15), 0);
        DUE.answer("the most long's first", x.read(16), 127);
        DUE.answer("the most long's last", x.read(23), 255);
        DUE.answer("the first of 1", x.read(24), 0);
        DUE.answer("the last of 1", x.read(31), 1);
    }

    /** "places are taken modulo 256": behind 255 comes 0. */
    private static void putOverTheEnd() {
        for (int place = 249; place <= 255; place++) {
            SelfChange x = new SelfChange();
            DUE.answer("put over the end", x.put(place, 0x0102030405060708L, 8), 0);
            for (int i = 0; i < 8; i++) {
                DUE.answer("byte " + i + " from " + place + " on", x.read((place + i) % 256), i + 1);
            }
            DUE.answer("the place behind", x.read((place + 8) % 256), 0);
            DUE.answer("the place before", x.read(place - 1), 0);
        }
    }

    private static void putUpToTheEnd() {
        SelfChange x = new SelfChange();
        x.put(248, -1L, 8);
        DUE.answer("read(247)", x.read(247), 0);
        DUE.answer("read(248)", x.read(248), 255);
        DUE.answer("read(255)", x.read(255), 255);
        DUE.answer("read(0)", x.read(0), 0);
        x.put(255, 7L, 1);
        DUE.answer("read(255) behind a put of one", x.read(255), 7);
        DUE.answer("read(0) behind a put of one", x.read(0), 0);
    }

    /** put: "how many MEMBERS were DROPPED": none, one, eight by a byte each, ten by one byte. */
    private static void putDropsNoneToTen() {
        SelfChange none = Stories.made(100);
        DUE.answer("put just before and up to it", none.put(92, -1L, 8), 0);
        DUE.answer("put just behind it", none.put(101, -1L, 8), 0);
        DUE.answer("put with it as the last", none.put(93, -1L, 8), 1);
        DUE.answer("put with none there", none.put(100, 0L, 1), 0);
        SelfChange eight = new SelfChange();
        for (int place = 100; place < 108; place++) {
            eight.routine(place);
        }
        eight.make();
        DUE.answer("put over eight", eight.put(100, 0x0303030303030303L, 8), 8);
        SelfChange ten = Stories.manyAt(100, 10);
        ten.make();
        DUE.answer("put in ten", ten.put(100, 3L, 1), 10);
    }

    private static void putDropsOverTheEnd() {
        SelfChange x = new SelfChange();
        x.routine(255);
        x.routine(0);
        x.routine(7);
        x.make();
        DUE.answer("put from 255 on", x.put(255, -1L, 8), 2);
        DUE.answer("the member at 7", x.member(2, 0), 1);
    }

    /** write: "The byte at a place becomes v", with the first and the last of both. */
    private static void writeFirstAndLast() {
        SelfChange x = new SelfChange();
        DUE.answer("write(0, 255)", x.write(0, 255), 0);
        DUE.answer("write(255, 255)", x.write(255, 255), 0);
        DUE.answer("read(0)", x.read(0), 255);
        DUE.answer("read(255)", x.read(255), 255);
        DUE.answer("read(1)", x.read(1), 0);
        DUE.answer("read(254)", x.read(254), 0);
        DUE.answer("write(0, 0)", x.write(0, 0), 0);
        DUE.answer("write(255, 0)", x.write(255, 0), 0);
        DUE.answer("read(0)", x.read(0), 0);
        DUE.answer("read(255)", x.read(255), 0);
    }

    /** write: "how many MEMBERS were DROPPED". */
    private static void writeDropsNoneToTen() {
        for (int n = 0; n <= 10; n++) {
            SelfChange x = Stories.manyAt(255, n);
            x.make();
            DUE.answer("write beside " + n, x.write(254, 3), 0);
            DUE.answer("write behind " + n, x.write(0, 3), 0);
            DUE.answer("write of what is there", x.write(255, 0), 0);
            DUE.answer("write in " + n, x.write(255, 3), n);
            DUE.answer("write in none any more", x.write(255, 0), 0);
        }
    }

    /** read: "The byte at a place". */
    private static void readFirstAndLast() {
        SelfChange x = new SelfChange();
        x.write(0, 1);
        x.write(255, 254);
        DUE.answer("read(0)", x.read(0), 1);
        DUE.answer("read(255)", x.read(255), 254);
        DUE.exception("read(-1)", ArrayIndexOutOfBoundsException.class, () -> x.read(-1));
        DUE.exception("read(256)", ArrayIndexOutOfBoundsException.class, () -> x.read(256));
        DUE.answer("read(255) behind these", x.read(255), 254);
    }
}
