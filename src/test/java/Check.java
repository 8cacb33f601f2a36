import java.util.function.IntToLongFunction;

/** Counts answers that are not as due, and tells them with the sentence of the document that is tested. */
final class Check {
    static final int LOW = Integer.MIN_VALUE;
    static final int HIGH = Integer.MAX_VALUE;
    static final int BAD = -1, NO = -2, FULL = -3, NONE = -4;

    private final Document document;
    private String section = "";
    private String sentence = "";
    private int asked;
    private int sentences;
    private int wrong;

    Check(Document document) {
        this.document = document;
        asked = 1;
    }

    void start(String quote) {
        sentence("What it is", quote);
    }

    void term(String quote) {
        sentence("Terms", quote);
    }

    void promise(int n, String quote) {
        sentence("Promise " + n, quote);
    }

    private void sentence(String where, String quote) {
        finish();
        section = where;
        sentence = quote;
        sentences++;
        if (document != null && !document.quote(where, quote)) {
            tell("the document doesn't say so");
        }
    }

    /** A sentence that is quoted and not tested is as bad as one that doesn't hold. */
    private void finish() {
        if (asked == 0) {
            tell("nothing was asked");
        }
        asked = 0;
    }

    void due(String what, long got, long want) {
        asked++;
        if (got != want) {
            tell(what + " answered " + got + ", due is " + want);
        }
    }

    void due(String what, boolean so) {
        asked++;
        if (!so) {
            tell(what + " is not so");
        }
    }

    /** The last numbers that are told are taken; the first that are not, below and above, and the farthest are refused. */
    void bounds(String what, int low, int high, long refusal, IntToLongFunction call) {
        due(what + " with " + low + " is taken", call.applyAsLong(low) != refusal);
        due(what + " with " + high + " is taken", call.applyAsLong(high) != refusal);
        for (int v : new int[] {low - 1, high + 1, LOW, HIGH}) {
            due(what + " with " + v, call.applyAsLong(v), refusal);
        }
    }

    private void tell(String what) {
        wrong++;
        System.out.println(section + ", \"" + sentence + "\": " + what);
    }

    /** How many are wrong in the end, sentences without a test counted. */
    int end() {
        finish();
        if (document == null) {
            System.out.println("the document is not there: quotes were not compared with it");
        } else {
            for (String words : document.unquoted()) {
                wrong++;
                System.out.println("no test is of " + words);
            }
        }
        System.out.println(sentences + " sentences, " + wrong + " faults");
        return wrong;
    }
}
