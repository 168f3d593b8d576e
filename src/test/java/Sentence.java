import java.io.IOException;
import java.nio.file.Files;
import java.nio.file.Path;
import java.util.regex.Matcher;
import java.util.regex.Pattern;

/** A sentence of ../shared/DOC.md that names a boundary case: what a test finds wrong is told by its words. */
final class Sentence {
    interface NumberAct {
        Object on(Greenwheels x, int number);
    }

    private static final String DOC = read();
    private static final boolean[] NAMED = new boolean[DOC.length()];
    // Words by which a boundary is told; each one in the document has to stand in a sentence that some test names.
    private static final Pattern BOUNDARY = Pattern.compile("-?\\d+ to -?\\d+|to LIMIT|is the CRANK|at most|at first|numbered from"
            + "|no more than|above 0|below 0|or more\\b|more than|less than|rounded down|without|with no|NONE|if there is none"
            + "|there are|there is|least|fewest|near or far|on one AXLE|MOVED or not|as if it had|\\bever\\b|none|such"
            + "|changes nothing|If several|wraps around|starts with|Throws|has 6|must|sum of|rising numbers|would JAM");

    private final String words;

    private Sentence(String words) {
        this.words = words;
    }

    /** The one place behind the heading that starts so, where these words stand. */
    static Sentence of(String heading, String words) {
        Matcher head = Pattern.compile("(?m)^(## |== )" + Pattern.quote(heading)).matcher(DOC);
        int start = head.find() ? head.end() : -1;
        Matcher behind = Pattern.compile("(?m)^(## |== )").matcher(DOC);
        int end = start >= 0 && behind.find(start) ? behind.start() : DOC.length();
        int place = start < 0 ? -1 : DOC.indexOf(words, start);
        boolean stands = place >= 0 && place + words.length() <= end;
        Due.is(heading + ": the document says \"" + words + "\"", stands, true);
        if (stands) {
            int again = DOC.indexOf(words, place + 1);
            Due.is(heading + ": says once \"" + words + "\"", again < 0 || again + words.length() > end, true);
            for (int k = place; k < place + words.length(); k++) {
                NAMED[k] = true;
            }
        }
        return new Sentence(heading + " \"" + words + "\": ");
    }

    Sentence is(String what, Object got, Object want) {
        Due.is(words + what, got, want);
        return this;
    }

    /** The call is refused so, and all answers behind it are what they are without it. */
    Sentence refuses(String what, Class<?> want, Scene scene, Scene.Act act) {
        Greenwheels x = scene.made();
        Due.refuses(words + what + " on " + scene.name, want, () -> act.on(x));
        Due.is(words + "behind " + what + " on " + scene.name, Answers.of(x, scene.calls() + 1), scene.answers());
        return this;
    }

    /** Both ends are allowed; the numbers next to them outside, and far ones, are refused. */
    Sentence range(String what, Scene scene, int least, int most, Class<?> want, NumberAct act) {
        for (int allowed : new int[] {least, most}) {
            Greenwheels x = scene.made();
            String answer = Due.answer(() -> act.on(x, allowed));
            is(what + " is allowed with " + allowed + " on " + scene.name, answer.startsWith("throws"), false);
        }
        for (int refused : new int[] {least - 1, most + 1, Integer.MIN_VALUE, Integer.MAX_VALUE}) {
            refuses(what + " with " + refused, want, scene, x -> act.on(x, refused));
        }
        return this;
    }

    /** Prints where the document tells a boundary in words that no test has named. */
    static void allAreNamed() {
        Matcher found = BOUNDARY.matcher(DOC);
        int start = DOC.indexOf("An object is used");
        int end = DOC.indexOf("## Not promised");
        int many = 0;
        while (found.find()) {
            if (found.start() >= start && found.end() <= end && !isInFace(found.start())) {
                many++;
                String line = DOC.substring(DOC.lastIndexOf('\n', found.start()) + 1, DOC.indexOf('\n', found.end()));
                Due.is("\"" + found.group() + "\" is named, of: " + line, NAMED[found.start()], true);
            }
        }
        Due.is("boundaries are found", many > 100, true);
    }

    private static boolean isInFace(int place) {
        return place > DOC.indexOf("## The public face") && place < DOC.indexOf("## Description");
    }

    private static String read() {
        try {
            return Files.readString(Path.of("../shared/DOC.md")).replace("`", "");
        } catch (IOException e) {
            throw new IllegalStateException(e);
        }
    }
}
