import java.io.IOException;
import java.nio.charset.StandardCharsets;
import java.nio.file.Files;
import java.nio.file.Path;

/** Compares answers with those that are due, and prints each that differs, behind the words that ask for it. */
final class Due {
    interface Call {
        long answer();
    }

    static final Class<IndexOutOfBoundsException> INDEX = IndexOutOfBoundsException.class;
    static final Class<IllegalArgumentException> ARGUMENT = IllegalArgumentException.class;
    static final Class<IllegalStateException> STATE = IllegalStateException.class;

    private static final long MOST_SECONDS = 300;

    private final String document = read(Path.of("..", "shared", "DOC.md"));
    private volatile String words = "";
    private int asked;
    private int wrong;

    /** A call that does not end would else keep the tests from ever telling so. */
    Due() {
        Thread watch = new Thread(this::stopLater);
        watch.setDaemon(true);
        watch.start();
    }

    private void stopLater() {
        try {
            Thread.sleep(MOST_SECONDS * 1000);
        } catch (InterruptedException e) {
            return;
        }
        System.out.println("[" + words + "] no end in " + MOST_SECONDS + " seconds");
        Runtime.getRuntime().halt(1);
    }

    /** The words of the document that the next answers test: they must stand there just so. */
    void says(String... quotes) {
        words = String.join(" .. ", quotes);
        for (String quote : quotes) {
            truth("the document has these words: " + quote, document.isEmpty() || document.contains(quote));
        }
    }

    /** Empty if the document is not at hand: the answers can be tested without it. */
    private static String read(Path path) {
        try {
            return Files.readString(path, StandardCharsets.UTF_8).replaceAll("\\s+", " ");
        } catch (IOException e) {
            return "";
        }
    }

    void is(String call, long want, long got) {
        asked++;
        if (got != want) {
            complain(call + " answered " + got + ", due is " + want);
        }
    }

    void truth(String what, boolean holds) {
        asked++;
        if (!holds) {
            complain(what + ": this does not hold");
        }
    }

    void same(String what, String want, String got) {
        asked++;
        if (!got.equals(want)) {
            complain(what + " is \"" + got + "\", due is \"" + want + "\"");
        }
    }

    void thrown(String call, Class<? extends RuntimeException> want, Call made) {
        asked++;
        Object got;
        try {
            got = made.answer();
        } catch (RuntimeException e) {
            got = e.getClass();
        }
        if (got != want) {
            complain(call + " gave " + got + ", due is " + want);
        }
    }

    void registerIs(PlotLeases x, int p, String want) {
        same("the line of " + p, want, Grounds.register(x, p));
    }

    private void complain(String what) {
        wrong++;
        System.out.println(words.isEmpty() ? what : "[" + words + "] " + what);
    }

    void end() {
        System.out.println(asked + " answers, " + wrong + " not as due");
        if (wrong != 0) {
            System.exit(1);
        }
    }
}
