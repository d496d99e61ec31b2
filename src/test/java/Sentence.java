/**
 * The document's sentences, word for word, each with the section that it stands in. Each one has a test
 * of its own: SentencesTest holds them against the document, and the tests of boundaries tell which one
 * they are about.
 */
enum Sentence {
    CALLS("What it is",
        "An object is used for at most 512 calls after it has been made; what later calls answer is free."),

    POWERS("Terms",
        "POWERS are x to the a times y to the b, a and b from 0 on, a + b up to 4 (with one UNKNOWN b is 0)."),
    AHEAD("Terms",
        "One is AHEAD of another one if its a + b is less, or the same and its a is greater."),
    NUMBERS("Terms",
        "The POLYNOMIAL is a sum of whole numbers -15 .. 15 times POWERS; its TERMS are those whose number"
        + " isn't 0."),
    COVERED("Terms",
        "A point (p, q) is COVERED by some POWERS if with some numbers, none below 0, that make 1 together,"
        + " the sum of these times the (a, b) is (p, q)."),
    CORNERS("Terms",
        "A CORNER is the POWER of a TERM that isn't COVERED by those of all the other TERMS."),
    BASIS("Terms",
        "The BASIS are all POWERS (a, b) for which (2 a, 2 b) is COVERED by the POWERS of all TERMS, those"
        + " AHEAD first; of the POLYNOMIAL 0 there are none."),
    TABLE("Terms",
        "The TABLE has a whole number -30 .. 30 for any two MEMBERS of the BASIS, for i and j the same as for"
        + " j and i."),
    MAKES("Terms",
        "It MAKES the POLYNOMIAL if half the sum, over all i and all j, of the number for i and j times"
        + " MEMBER i times MEMBER j is the POLYNOMIAL."),
    STEPS_BELOW("Terms",
        "STEPS: of what is left of the TABLE (as fractions), MEMBERS i from 0 on: if the number for i and i is"
        + " below 0, it FAILS;"),
    STEPS_AT_0("Terms",
        "if it is 0, it FAILS if the number for i and some j behind i isn't 0, else nothing is done;"),
    STEPS_ABOVE("Terms",
        "if it is w, above 0, then a SQUARE comes: its WEIGHT is half of w, its ROW has for each j the number"
        + " for i and j through w (0 for j ahead of i), and of the number for j and k the ROW's numbers for j"
        + " and k and w, multiplied, are taken off, for all j, k."),
    SUM_OF_SQUARES("Terms",
        "(If it never FAILS, the POLYNOMIAL that the TABLE MAKES is the sum of WEIGHTS times squares of sums"
        + " of ROWS' numbers times MEMBERS.)"),
    PAIRS("Terms",
        "PAIRS are any i, j with i not above j, in the order of i, then of j."),
    HANGS("Terms",
        "For each POWER that is some MEMBER i times some MEMBER j one of its PAIRS HANGS: the one with i and j"
        + " the same, if there is one, else the first one; all other PAIRS are FREE."),
    TOLD("Terms",
        "A TABLE is told by numbers for all FREE PAIRS, if those of the PAIRS that HANG are such that it MAKES"
        + " the POLYNOMIAL (there is just one such number for each, and it may not fit, or the POLYNOMIAL have"
        + " a TERM that no PAIR has)."),
    FRACTIONS("Terms",
        "FRACTIONS are told in lowest terms, above (0) and below (1), below above 0."),
    NO_SUCH("Terms",
        "IndexOutOfBoundsException: no such MEMBER, SQUARE."),
    AS_SAID("Terms",
        "IllegalStateException, IllegalArgumentException: as said."),
    FIRST_THROWN("Terms",
        "Of several the one that stands first behind \"throws\" is thrown; nothing changes."),

    NEW_UNKNOWNS("Promise 1",
        "So many UNKNOWNS: 1 if it is below 1, 2 if it is above 2."),
    NEW_POLYNOMIAL("Promise 1",
        "The POLYNOMIAL is 0."),
    TERM("Promise 2",
        "The number at a POWER: whether it is another one; if so all numbers of the TABLE are 0, and no"
        + " SQUARES are there."),
    TERM_REFUSED("Promise 2",
        "IllegalArgumentException: no such POWER, number."),
    BASIS_SIZE("Promise 3",
        "How many MEMBERS the BASIS has; -1 if some CORNER has an odd a or b, or a number below 0."),
    BASIS_THEN_TOO("Promise 3",
        "(The BASIS is as said then, too.)"),
    MEMBER("Promise 4",
        "The a (letter 0) or b (1) of a MEMBER."),
    MEMBER_REFUSED("Promise 4",
        "IllegalArgumentException: another letter."),
    PUT("Promise 5",
        "The TABLE's number for i and j: whether it is another one; if so no SQUARES are there."),
    PUT_REFUSED("Promise 5",
        "IllegalArgumentException: no such number."),
    AT("Promise 6",
        "That number."),
    CHECK("Promise 7",
        "1 if the TABLE doesn't MAKE the POLYNOMIAL; 2 if it does, but STEPS FAIL; 0 if not: the SQUARES are"
        + " there then (of 1, 2 none)."),
    SQUARES("Promise 8",
        "How many SQUARES there are."),
    SQUARES_REFUSED("Promise 8",
        "IllegalStateException: none are there, the latest check() not having answered 0, or something being"
        + " another one since."),
    WEIGHT("Promise 9",
        "The WEIGHT of a SQUARE, part 0 or 1."),
    WEIGHT_STATE("Promise 9",
        "IllegalStateException: likewise."),
    WEIGHT_REFUSED("Promise 9",
        "IllegalArgumentException: another part."),
    ROW("Promise 10",
        "Its ROW's number for MEMBER i, likewise."),
    FREE("Promise 11",
        "How many FREE PAIRS there are."),
    FIND("Promise 12",
        "TABLES told by numbers -most .. most for all FREE PAIRS are tried, the last one's number rising"
        + " fastest, all from -most on, till one's numbers all fit, it MAKES the POLYNOMIAL, and STEPS don't"
        + " FAIL: it is the TABLE then, its SQUARES are there, and the answer is how many were tried ahead of"
        + " it."),
    FIND_NONE("Promise 12",
        "-1 if there is none (then all is as it was)."),
    FIND_REFUSED("Promise 12",
        "IllegalArgumentException: most isn't 0 .. 2."),
    VALUE("Promise 13",
        "The POLYNOMIAL's value (y isn't looked at if there is one UNKNOWN)."),
    VALUE_REFUSED("Promise 13",
        "IllegalArgumentException: x, or y if it is looked at, isn't -100 .. 100."),
    COUNT("Promise 14",
        "How many TERMS (what 0), UNKNOWNS (1), CORNERS (2) there are; -1 for another what."),
    CLEAR("Promise 15",
        "The POLYNOMIAL is 0; no SQUARES are there (also if it was 0 ahead of that).");

    final String section;
    final String words;

    Sentence(String section, String words) {
        this.section = section;
        this.words = words;
    }
}
