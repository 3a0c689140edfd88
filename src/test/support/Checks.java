import java.util.ArrayList;
import java.util.List;

/** What the tests have in common: answers that are due, and pieces that histories are made of. */
abstract class Checks {
    static final int NONE = HistoryJudge.NONE;
    static final int LEAST = Integer.MIN_VALUE;
    static final int GREATEST = Integer.MAX_VALUE;

    static final int[] NO_TRANSACTIONS = {-1, 8, LEAST, GREATEST};
    static final int[] NO_ITEMS = {-1, 6, LEAST, GREATEST};
    static final int[] NO_KINDS = {-1, 4, LEAST, GREATEST};

    private static int checked = 0;
    private static int wrong = 0;

    /** Some calls. */
    interface Story {
        void tell(CountedJudge x);
    }

    static void fault(String text) {
        wrong++;
        System.out.println(text);
    }

    static void due(String what, int want, int got) {
        checked++;
        if (want != got) {
            fault(what + " answered " + got + ", due is " + want);
        }
    }

    static void due(String what, boolean want, boolean got) {
        checked++;
        if (want != got) {
            fault(what + " answered " + got + ", due is " + want);
        }
    }

    /** The very class: one that merely extends the exception of the document is not due. */
    static void dueThrow(String what, Class<?> want, CountedJudge x, Story call) {
        checked++;
        Class<?> got = null;
        try {
            call.tell(x);
        } catch (RuntimeException e) {
            got = e.getClass();
        }
        if (want != got) {
            fault(what + " threw " + got + ", due is " + want);
        }
    }

    static void dueOrder(String what, CountedJudge x, int item, int... want) {
        for (int i = 0; i < want.length; i++) {
            due(what + ": version " + i, want[i], x.version(item, i));
        }
        due(what + ": behind the last version", NONE, x.version(item, want.length));
        due(what + ": before the first version", NONE, x.version(item, -1));
    }

    static void dueRow(String what, CountedJudge x, int kind, int... want) {
        due(what + ": length", want.length, x.cycle(kind));
        for (int i = 0; i < want.length; i++) {
            due(what + ": step " + i, want[i], x.step(kind, i));
        }
        due(what + ": behind the last step", NONE, x.step(kind, want.length));
        due(what + ": before the first step", NONE, x.step(kind, -1));
    }

    static void dueSerial(String what, CountedJudge x, int beginnings, int... want) {
        due(what + ": serial", true, x.serial());
        for (int i = 0; i < want.length; i++) {
            due(what + ": place " + i, want[i], x.place(i));
        }
        due(what + ": behind the last place", NONE, x.place(want.length));
        due(what + ": before the first place", NONE, x.place(-1));
        due(what + ": beginnings", beginnings, x.beginnings());
    }

    static void dueNoSerial(String what, CountedJudge x) {
        due(what + ": serial", false, x.serial());
        due(what + ": place", NONE, x.place(0));
        due(what + ": beginnings", 0, x.beginnings());
    }

    static CountedJudge told(Story story) {
        CountedJudge x = new CountedJudge();
        story.tell(x);
        return x;
    }

    /** Both answer the same to everything, now and once what still runs has committed. */
    static void dueSame(String what, CountedJudge wanted, CountedJudge x) {
        checked++;
        List<String> want = everything(wanted);
        List<String> got = everything(x);
        for (int i = 0; i < Math.max(want.size(), got.size()); i++) {
            String due = i < want.size() ? want.get(i) : "nothing";
            String is = i < got.size() ? got.get(i) : "nothing";
            if (!due.equals(is)) {
                fault(what + ": " + is + ", due is " + due);
                return;
            }
        }
    }

    /**
     * All that an object can be asked; some 340 calls. What is not seen yet, such as the latest
     * versions of a transaction that runs, is seen when it commits.
     */
    private static List<String> everything(CountedJudge x) {
        List<String> answers = new ArrayList<>();
        addQuestions(answers, x);
        for (int t = 0; t < 8; t++) {
            if (x.state(t) == 1) {
                x.end(t, true);
            }
        }
        addQuestions(answers, x);
        addReads(answers, x);
        answers.add("versions " + x.clear());
        return answers;
    }

    private static void addQuestions(List<String> answers, CountedJudge x) {
        for (int a = 0; a < 8; a++) {
            answers.add("state " + a + " is " + x.state(a));
            for (int b = 0; b < 8; b++) {
                if (a != b) {
                    answers.add("edges " + a + " " + b + " are " + x.edges(a, b));
                }
            }
        }
        for (int item = 0; item < 6; item++) {
            addOrder(answers, x, item);
        }
        answers.add("flaws are " + x.flaws());
        answers.add("level is " + x.level());
        for (int kind = 0; kind < 4; kind++) {
            int length = x.cycle(kind);
            answers.add("cycle " + kind + " is of " + length);
            for (int i = 0; i < length; i++) {
                answers.add("step " + kind + " " + i + " is " + x.step(kind, i));
            }
        }
        answers.add("serial is " + x.serial());
        answers.add("beginnings are " + x.beginnings());
        for (int i = 0; i < 8; i++) {
            answers.add("place " + i + " is " + x.place(i));
        }
    }

    private static void addOrder(List<String> answers, CountedJudge x, int item) {
        int found = 0;
        for (int i = 0; found != NONE; i++) {
            found = x.version(item, i);
            answers.add("version " + item + " " + i + " is " + found);
        }
    }

    /** How many reads there are is told by one more alone, so it comes behind all questions. */
    private static void addReads(List<String> answers, CountedJudge x) {
        for (int t = 0; t < 8; t++) {
            if (x.state(t) <= 1) {
                try {
                    answers.add("reads with one more " + x.read(t, 0, -1));
                } catch (UnsupportedOperationException e) {
                    answers.add("reads full");
                }
                return;
            }
        }
    }

    static void commit(CountedJudge x, int... ts) {
        for (int t : ts) {
            x.end(t, true);
        }
    }

    /** An item that a and then b wrote: an edge WW from a to b. The two have not ended. */
    static void overwrite(CountedJudge x, int item, int a, int b) {
        x.write(a, item);
        x.write(b, item);
    }

    /** A version of a is read by b: an edge WR from a to b. */
    static void flow(CountedJudge x, int item, int a, int b) {
        x.read(b, item, x.write(a, item));
    }

    /** The first version is read by a and overwritten by b: an edge RW from a to b. */
    static void antiFlow(CountedJudge x, int item, int a, int b) {
        x.read(a, item, -1);
        x.write(b, item);
    }

    /** A version of a, which a reads too, is overwritten by b: edges WW and RW from a to b. */
    static void overwriteRead(CountedJudge x, int item, int a, int b) {
        x.read(a, item, x.write(a, item));
        x.write(b, item);
    }

    static void close() {
        System.out.println(checked + " checked, " + wrong + " wrong");
        if (wrong != 0) {
            System.exit(1);
        }
    }
}
