/** Counts the answers that are not as due and tells each. */
final class Check {
    static final int UNKNOWN = -1, OUTSIDE = -2, STATE = -3, FULL = -4, NONE = -9;
    static final int NULL = -11, CAST = -12, INDEX = -13, SIZE = -14;
    static final long LOST = Long.MIN_VALUE;
    /** Numbers that are as told nowhere, and edges at which sums wrap. */
    static final int[] WILD = {Integer.MIN_VALUE, Integer.MIN_VALUE + 1, -1000, -1, 1000,
        Integer.MAX_VALUE - 1, Integer.MAX_VALUE};

    private final String name;
    private String sentence = "";
    private int asked;
    private int wrong;

    Check(String name) {
        this.name = name;
    }

    /** The words of the document that the answers from here on are due by. */
    void by(String words) {
        sentence = " [" + words + "]";
    }

    void due(String call, long got, long want) {
        dueText(call, Long.toString(got), Long.toString(want));
    }

    void dueText(String call, String got, String want) {
        asked++;
        if (!got.equals(want)) {
            wrong++;
            System.out.println(name + sentence + ": " + call + " answered " + got + ", due is " + want);
        }
    }

    void dueTrue(String what, boolean is) {
        due(what, is ? 1 : 0, 1);
    }

    /** What answers of a run of numbers are due: from first on, one behind another. */
    void dueRow(String call, long[] got, long... want) {
        due(call + " (how many)", got.length, want.length);
        for (int k = 0; k < Math.min(got.length, want.length); k++) {
            due(call + " [" + k + "]", got[k], want[k]);
        }
    }

    void end() {
        System.out.println(name + ": " + asked + " answers, " + wrong + " not as due");
        if (wrong != 0 || asked == 0) {
            System.exit(1);
        }
    }

    static void write(SnowCensus x, int sheet, int lane, int... cells) {
        x.sheet(sheet, lane, cells.length);
        for (int i = 0; i < cells.length; i++) {
            x.put(sheet, i, cells[i]);
        }
    }

    static int[] codes(String text) {
        return text.chars().toArray();
    }

    /** A FIELD by a text, through SHEET 0 as bytes. */
    static int lay(SnowCensus x, String text) {
        write(x, 0, 0, codes(text));
        return x.field(0, 0, 0, text.length());
    }

    static SnowCensus of(String text) {
        SnowCensus x = new SnowCensus();
        if (lay(x, text) < 1) {
            throw new IllegalArgumentException("no text: " + text);
        }
        return x;
    }
}
