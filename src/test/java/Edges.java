import java.io.IOException;
import java.nio.file.Files;
import java.nio.file.Path;
import java.util.Arrays;
import java.util.Map;
import java.util.TreeMap;

/**
 * What tests of single sentences share. Each test names the words of the document that it holds the class to;
 * words that don't stand in that chapter, and words that no test names, are told: the document has changed then,
 * which is no fault of the class.
 */
class Edges {
    static final int NONE = -1, FULL = -2, STATE = -3, NOT = -4, BIG = -5, CAST = -6, NO_VALUE = -2000000000;
    static final int MIN = Integer.MIN_VALUE, MAX = Integer.MAX_VALUE;

    private static final Path DOC = Path.of("../shared/DOC.md");
    private static final Map<String, String> CHAPTERS = new TreeMap<>();
    private static final Map<String, boolean[]> NAMED = new TreeMap<>();
    private static String chapter = "";
    private static String words = "";
    private static int tests = 0;
    private static int asked = 0;
    private static int wrong = 0;
    private static int unlike = 0;

    /** One test of one sentence. */
    interface Check {
        void run();
    }

    // ---- the document

    /** Takes the chapters whose words are to be named: how long an object is used, terms, answers, promises. */
    static void readDocument() throws IOException {
        String doc = Files.readString(DOC).replace("```text", " ").replace("```", " ");
        for (String part : doc.split("\n## ")) {
            String title = part.substring(0, part.indexOf('\n'));
            String body = part.substring(part.indexOf('\n'));
            if (title.startsWith("Promise ")) {
                keep(title.substring(0, title.indexOf(':')), body.substring(body.indexOf("`:") + 2));
            } else if (title.equals("Terms")) {
                readTerms(body);
            } else if (title.equals("What it is")) {
                keep(title, body.substring(body.indexOf("An object is used")));
            }
        }
    }

    private static void readTerms(String body) {
        String terms = body.substring(0, body.indexOf("\nAnswers, the first that a call names"));
        String answers = body.substring(terms.length() + 1, body.indexOf("\nAhead of the calls"));
        for (String part : terms.split("==== ")) {
            if (!part.isBlank()) {
                keep("Terms " + part.charAt(0), part.substring(1));
            }
        }
        keep("Answers", answers);
    }

    private static void keep(String title, String text) {
        String plain = text.replaceAll("\\s+", " ").trim();
        CHAPTERS.put(title, plain);
        NAMED.put(title, new boolean[plain.length()]);
    }

    static void chapter(String title) {
        chapter = title;
        words = title;
        alike(CHAPTERS.containsKey(title), "the document has no such chapter");
    }

    static void promise(int n) {
        chapter("Promise " + n);
    }

    private static void name(String named) {
        String text = CHAPTERS.getOrDefault(chapter, "");
        int at = text.indexOf(named);
        alike(at >= 0, "these words don't stand there");
        for (; at >= 0; at = text.indexOf(named, at + 1)) {
            Arrays.fill(NAMED.get(chapter), at, at + named.length(), true);
        }
    }

    /** The words of each chapter that no test has named. */
    private static void lookForUnnamed() {
        for (String title : CHAPTERS.keySet()) {
            chapter = title;
            StringBuilder left = new StringBuilder();
            String text = CHAPTERS.get(title);
            for (int i = 0; i < text.length(); i++) {
                left.append(NAMED.get(title)[i] ? '\n' : text.charAt(i));
            }
            for (String stretch : left.toString().split("\n")) {
                words = stretch.trim();
                alike(stretch.chars().noneMatch(Character::isLetterOrDigit), "no test names these words");
            }
        }
    }

    // ---- tests and answers

    /** Runs one test; what it throws is a fault of that test alone. */
    static void edge(String named, Check check) {
        words = named;
        tests++;
        name(named);
        try {
            check.run();
        } catch (RuntimeException | StackOverflowError e) {
            must(false, "threw " + e);
        }
    }

    private static void must(boolean held, String what) {
        if (!held) {
            wrong++;
            System.out.println(chapter + " [" + words + "]: " + what);
        }
    }

    private static void alike(boolean held, String what) {
        if (!held) {
            unlike++;
            System.out.println("Not a fault: " + chapter + " [" + words + "]: " + what);
        }
    }

    static void due(String what, long got, long want) {
        asked++;
        must(got == want, what + " answered " + got + ", due is " + want);
    }

    static void same(String what, String got, String want) {
        asked++;
        must(got.equals(want), what + ": " + got + ", due is " + want);
    }

    static void end() {
        lookForUnnamed();
        System.out.println(tests + " tests of sentences, " + asked + " answers asked, " + wrong + " faults; "
            + unlike + " places where they and the document's words are not alike");
        if (wrong != 0) {
            System.exit(1);
        }
    }

    // ---- what many tests begin with

    /** Houses and persons 0 of land 0, and 1 of land 1; film 0 of house 0, with two episodes. */
    static ReelBack studio() {
        ReelBack x = new ReelBack();
        x.house(0);
        x.house(1);
        x.person(0);
        x.person(1);
        x.film(0, 2);
        return x;
    }

    static void draft(ReelBack x, int film, int land, int day, int who) {
        x.set(0, film);
        x.set(1, 0);
        x.set(2, land);
        x.set(3, day);
        x.set(4, who);
        x.set(5, 1000 + x.count(4));
        x.set(6, 0);
    }

    /** A cost of a kind for its film's episode 0, today, by a receipt of its own. */
    static int spend(ReelBack x, int kind, int film, int land, int who, int coins) {
        draft(x, film, land, x.count(3), who);
        return x.cost(kind, coins);
    }

    static int wage(ReelBack x, int film, int land, int coins) {
        return spend(x, 1, film, land, 0, coins);
    }

    /** So many like wages with one receipt, which are no DOUBLES; answers the last one's number. */
    static int wages(ReelBack x, int film, int land, int coins, int n) {
        draft(x, film, land, x.count(3), 0);
        int last = NONE;
        for (int i = 0; i < n; i++) {
            last = x.cost(1, coins);
        }
        return last;
    }

    static int goods(ReelBack x, int film, int land, int house, int coins) {
        return spend(x, 2, film, land, house, coins);
    }

    static void feed(ReelBack x, String bytes) {
        for (int i = 0; i < bytes.length(); i += 4) {
            int n = Math.min(4, bytes.length() - i);
            int v = 0;
            for (int b = n - 1; b >= 0; b--) {
                v = v << 8 | bytes.charAt(i + b);
            }
            x.feed(n, v);
        }
    }

    static int make(ReelBack x, int what, int from, String bytes) {
        feed(x, bytes);
        return x.text(what, from);
    }

    /** A film of house 0 that spent so many coins in a land, and asks there. */
    static int certificate(ReelBack x, int land, int coins) {
        int film = x.film(0, 1);
        wage(x, film, land, coins);
        return x.ask(film, land);
    }

    static void years(ReelBack x, int n) {
        for (int i = 0; i < n; i++) {
            x.days(360);
        }
    }
}
