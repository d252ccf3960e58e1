/** Makes objects with bytes in them, for the tests. */
final class Stories implements Acts {
    private Stories() {
    }

    /** Writes bytes one by one: each that changes is KEPT. */
    static void bytes(SelfChange x, int place, int... values) {
        for (int i = 0; i < values.length; i++) {
            x.write((place + i) & 255, values[i]);
        }
    }

    /** A new object with one routine of these bytes at a place. */
    static SelfChange with(int place, int... values) {
        SelfChange x = new SelfChange();
        x.routine(place);
        bytes(x, place, values);
        return x;
    }

    /** As with(), and its MEMBER is made. */
    static SelfChange made(int place, int... values) {
        SelfChange x = with(place, values);
        x.make();
        return x;
    }

    /** A new object with so many routines, all at one place. */
    static SelfChange manyAt(int place, int routines) {
        SelfChange x = new SelfChange();
        for (int r = 0; r < routines; r++) {
            x.routine(place);
        }
        return x;
    }

    /**
     * Something of each: 0 has a MEMBER of two HEADS, 1 has one ASIDE, 2 is WALKED for good, 3's was
     * BACK and was DROPPED in the latest run, 4 was WALKED before it got one, 5 has one that stores.
     * One STEP alone was WALKED, so that share() tells of each STEP more.
     */
    static SelfChange rich() {
        return rich(new SelfChange());
    }

    static SelfChange rich(SelfChange x) {
        int[] places = {16, 32, 48, 64, 70, 80};
        for (int place : places) {
            x.routine(place);
        }
        x.put(16, 0x020106FCL, 4);
        x.put(80, 0x0103054000L, 5);
        x.run(4, 0, 0, 1);
        x.make();
        x.write(64, SWAP);
        x.undo();
        dropForGood(x, 48);
        x.snapshot();
        x.write(32, SWAP);
        x.snapshot();
        x.run(0, 0, 0, 5);
        x.write(200, 7);
        x.run(5, 7, 9, 5);
        return x;
    }

    /** Rich, and no room for one more ROUTINE, SNAPSHOT or KEPT one. */
    static SelfChange full() {
        return full(new SelfChange());
    }

    static SelfChange full(SelfChange x) {
        rich(x);
        for (int i = 0; i < 4; i++) {
            x.routine(100 + i);
            x.write(240 + i, i + 1);
        }
        x.snapshot();
        x.snapshot();
        return x;
    }

    /** A ROUTINE with a MEMBER at a place with END: three drops, and the byte is END again. */
    static void dropForGood(SelfChange x, int place) {
        x.write(place, SWAP);
        x.make();
        x.write(place, TIMES);
        x.make();
        x.write(place, END);
    }
}
