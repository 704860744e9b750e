/** What the tests share: they say which answers are due, and a wrong one ends the test with exit code 1. */
final class Check {
    private static int wrong = 0;
    private static int asked = 0;
    private static int sentences = 0;
    private static String sentence = "";

    private Check() {
    }

    /** The sentence of the document that the next answers are about; a fault is told with it. */
    static void sentence(String words) {
        sentences++;
        sentence = words;
    }

    static void due(String call, long got, long want) {
        asked++;
        if (got != want) {
            tell(call + " answered " + got + ", due is " + want);
        }
    }

    static void due(String call, boolean got, boolean want) {
        due(call, got ? 1 : 0, want ? 1 : 0);
    }

    static void due(String call, double got, double want) {
        asked++;
        if (got != want) {
            tell(call + " answered " + got + ", due is " + want);
        }
    }

    /** The call throws exactly this, and changes nothing that can be asked for. */
    static void refused(String call, Class<? extends RuntimeException> want, LabelStation x, Runnable made) {
        asked++;
        long before = x.digest();
        Class<?> got = null;
        try {
            made.run();
        } catch (RuntimeException e) {
            got = e.getClass();
        }
        if (got != want) {
            tell(call + " threw " + got + ", due is " + want);
        }
        due(call + ", the digest after it", x.digest(), before);
    }

    static void illegalArgument(String call, LabelStation x, Runnable made) {
        refused(call, IllegalArgumentException.class, x, made);
    }

    static void illegalState(String call, LabelStation x, Runnable made) {
        refused(call, IllegalStateException.class, x, made);
    }

    static void noSuchElement(String call, LabelStation x, Runnable made) {
        refused(call, java.util.NoSuchElementException.class, x, made);
    }

    static void outOfBounds(String call, LabelStation x, Runnable made) {
        refused(call, IndexOutOfBoundsException.class, x, made);
    }

    /** The call saves exactly one state, and undo brings back what there was. */
    static void undoable(String call, LabelStation x, Runnable made) {
        int saved = savedStates(x);
        long before = x.digest() - saved;
        made.run();
        due(call + ", saved states", savedStates(x), Math.min(saved + 1, 4));
        int left = Math.min(saved, 3);
        due(call + ", undo()", x.undo(), left);
        due(call + ", the digest after undo()", x.digest(), before + left);
    }

    /** The digest ends with the number of saved states: what is left of it when all before is taken away. */
    static int savedStates(LabelStation x) {
        for (int textLength = 0; textLength <= 80; textLength++) {
            long free = x.digest() - 31L * digestWithoutSaved(x, textLength, false);
            long jammed = x.digest() - 31L * digestWithoutSaved(x, textLength, true);
            if (free >= 0 && free <= 4) {
                return (int) free;
            }
            if (jammed >= 0 && jammed <= 4) {
                return (int) jammed;
            }
        }
        tell("the digest fits to no number of saved states");
        return 0;
    }

    /** As promise 27 says it, for an empty text and a labeler that is not jammed. */
    static long digestWithoutSaved(LabelStation x) {
        return digestWithoutSaved(x, 0, false);
    }

    static long digestWithoutSaved(LabelStation x, int textLength, boolean jammed) {
        long h = 2939;
        h = 31 * h + textLength;
        for (int what = 0; what <= 12; what++) {
            h = 31 * h + x.value(what);
        }
        h = 31 * h + (jammed ? 1 : 0);
        for (int what = 0; what <= 7; what++) {
            h = 31 * h + x.status(what);
        }
        for (int what = 0; what <= 17; what++) {
            h = 31 * h + x.counter(what);
        }
        for (int index = 0; index < x.status(3); index++) {
            int number = x.numberAt(index, false);
            h = 31 * h + number;
            for (int what = 0; what <= 2; what++) {
                h = 31 * h + x.item(number, what);
            }
        }
        for (int index = 0; index < x.status(4); index++) {
            int number = x.numberAt(index, true);
            h = 31 * h + number;
            for (int what = 0; what <= 4; what++) {
                h = 31 * h + x.record(number, what);
            }
        }
        return h;
    }

    /** Replaces the text. */
    static void write(LabelStation x, String text) {
        x.clearText();
        for (int index = 0; index < text.length(); index++) {
            x.append(text.charAt(index));
        }
    }

    /** A station with places at 10, 20, 30, 40 and 50, speed 1 and tolerance 0: a pulse a tick. */
    static LabelStation small() {
        LabelStation x = new LabelStation();
        x.setPlaces(10, 20, 30, 40, 50);
        x.set(0, 1);
        x.set(1, 2);
        x.set(5, 0);
        return x;
    }

    /** Moves an item by hand, by as many calls as it takes. */
    static void move(LabelStation x, int item, int position) {
        for (int step = 0; step < 100 && x.item(item, 0) != position; step++) {
            int way = position - x.item(item, 0);
            x.slip(item, Math.max(-30, Math.min(30, way)));
        }
    }

    private static void tell(String fault) {
        wrong++;
        if (wrong <= 20) {
            System.out.println(sentence.isEmpty() ? fault : "\"" + sentence + "\": " + fault);
        }
    }

    static void end(String test) {
        String of = sentences == 0 ? "" : sentences + " sentences, ";
        System.out.println(test + ": " + of + asked + " answers, " + wrong + " wrong");
        if (wrong != 0) {
            System.exit(1);
        }
    }
}
