/** The KINDS of ACTS, by name. */
interface Acts {
    int END = 0, SET = 1, GROW = 2, SWAP = 3, LOAD = 4, STORE = 5, GO = 6, GO_IF_ZERO = 7, GO_IF_LEFT = 8;
    int CALL = 9, LOAD_AT_B = 10, STORE_AT_B = 11, TIMES = 12;
    int FIRST_NONE = 13, LAST_NONE = 255;
}
