/** What the tests of single calls share: the counting of checks, refused calls, texts, and ready offices. */
abstract class Checks {
    static final Class<?> INDEX = IndexOutOfBoundsException.class;
    static final Class<?> ARGUMENT = IllegalArgumentException.class;
    static final Class<?> STATE = IllegalStateException.class;
    static final Class<?> ELEMENT = java.util.NoSuchElementException.class;
    static final int NONE = -1;
    static final int LOW = Integer.MIN_VALUE;
    static final int HIGH = Integer.MAX_VALUE;
    /** The first basin, as promise 1 has it. */
    static final String FIRST = "basin;place 20 8;place 0 0;place 10 0;place 0 0;reach 0 1 12 0;reach 1 2 8 1;"
        + "reach 1 3 6 0;reach 2 3 5 0;right 3 1862 1 coins 30 ask 0 7 7;right 1 1880 0 ask 2 5 6;"
        + "right 2 1875 2 coins 8 ask 1 6 4;right 0 1901 0 ask 0 7 3;inflow 0 0 6 6 9 12 8 4 2 2;"
        + "inflow 0 1 1 1 2 2 1 0 0 0;inflow 1 0 4 4 6 8 5 3 1 1;inflow 2 0 9 9 12 15 12 8 5 4;"
        + "inflow 2 1 2 2 3 3 2 1 0 0;";

    private static int wrong = 0;
    private static int checks = 0;
    private static String part = "";

    interface Call {
        Object make();
    }

    /** Names what the next checks are about: a promise, or a sentence of the document. */
    static void about(String what) {
        part = what;
    }

    static void due(String what, Object got, Object want) {
        checks++;
        if (!got.equals(want)) {
            wrong++;
            System.out.println(part + ": " + what + " answered " + got + ", due is " + want);
        }
    }

    /** Two long texts are the same; of others the first lines that are unlike are told. */
    static void alike(String what, String got, String want) {
        String[] gotLines = got.split("\n");
        String[] wantLines = want.split("\n");
        int line = 0;
        while (line < gotLines.length - 1 && line < wantLines.length - 1 && gotLines[line].equals(wantLines[line])) {
            line++;
        }
        due(what + ", line " + line, gotLines[line], wantLines[line]);
        due("the length of " + what, got.length(), want.length());
    }

    /** What a call answers, or the class of what it throws. */
    static Object answer(Call call) {
        try {
            return call.make();
        } catch (RuntimeException e) {
            return e.getClass();
        }
    }

    static void refused(String what, Class<?> want, Call call) {
        due(what, answer(call), want);
    }

    static void finish() {
        System.out.println(wrong == 0 ? checks + " checks are as due" : wrong + " checks are not as due");
        if (wrong != 0) {
            System.exit(1);
        }
    }

    /** Puts a text into the buffer. */
    static void say(RiverSeniority x, String text) {
        StringBuilder padded = new StringBuilder(text);
        while (padded.length() % 20 != 0) {
            padded.append((char) 0);
        }
        for (int i = 0; i < padded.length(); i += 20) {
            int[] w = new int[5];
            for (int k = 0; k < 20; k++) {
                w[k / 4] = w[k / 4] << 8 | padded.charAt(i + k);
            }
            x.append(w[0], w[1], w[2], w[3], w[4]);
        }
    }

    static RiverSeniority office(String text) {
        RiverSeniority x = new RiverSeniority();
        say(x, text);
        x.readBasin();
        return x;
    }

    static int decree(RiverSeniority x, int right, String text) {
        say(x, text);
        return x.setDecree(right);
    }

    static RiverSeniority passed(RiverSeniority x, int weeks) {
        for (int i = 0; i < weeks; i++) {
            x.passWeek();
        }
        return x;
    }

    static RiverSeniority over() {
        return passed(new RiverSeniority(), 8);
    }

    static String written(RiverSeniority x) {
        return lastWritten(x, x.writeBasin());
    }

    static String lastWritten(RiverSeniority x, int length) {
        StringBuilder text = new StringBuilder();
        for (int i = 0; i < length; i++) {
            text.append((char) x.writtenAt(i));
        }
        return text.toString();
    }

    /** Where the reading of a basin stops. */
    static int stop(String text) {
        RiverSeniority x = new RiverSeniority();
        say(x, text);
        boolean isRefused = answer(() -> x.readBasin()) == ARGUMENT;
        due("what is left of the text " + text, x.clearText(), 0);
        due("refusal of " + text, isRefused, x.errorPosition() != NONE);
        return x.errorPosition();
    }

    /** Where the reading of a decree stops. */
    static int decreeStop(String text) {
        RiverSeniority x = new RiverSeniority();
        say(x, text);
        boolean isRefused = answer(() -> x.setDecree(0)) == ARGUMENT;
        due("what is left of the decree " + text, x.clearText(), 0);
        due("refusal of " + text, isRefused, x.errorPosition() != NONE);
        return x.errorPosition();
    }

    /** What a right gets by a scenario in the weeks from 0 to 7. */
    static String amounts(RiverSeniority x, int scenario, int right) {
        StringBuilder row = new StringBuilder();
        for (int week = 0; week < 8; week++) {
            row.append(week == 0 ? "" : " ").append(x.amountAt(scenario, right, week));
        }
        return row.toString();
    }

    /** What a right asks for by a scenario in the weeks from 0 to 7. */
    static String asks(RiverSeniority x, int scenario, int right) {
        StringBuilder row = new StringBuilder();
        for (int week = 0; week < 8; week++) {
            row.append(week == 0 ? "" : " ").append(x.askedAt(scenario, right, week));
        }
        return row.toString();
    }
}
