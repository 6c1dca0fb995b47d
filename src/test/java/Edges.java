import java.io.IOException;
import java.nio.file.Files;
import java.nio.file.Path;
import java.util.Arrays;
import java.util.Map;
import java.util.TreeMap;
import java.util.function.Supplier;
import java.util.regex.Matcher;
import java.util.regex.Pattern;

/**
 * Holds answers against sentences of the document that name an edge. Each sentence is quoted as it stands
 * there; in the end no edge of the document may be left that no sentence was quoted of.
 */
final class Edges {
    static final String TERMS = "Terms";
    private static final Pattern HEAD = Pattern.compile("(?m)^## (?:Promise )?([^:\n]*).*$");
    // Of terms every number is an edge, or near one; of promises what is answered to a call that is refused.
    private static final Pattern EDGE_OF_TERMS = Pattern.compile("[0-9]|at most|at least|more than|without|nothing|of several|\\bnone\\b|NONE");
    private static final Pattern EDGE_OF_PROMISE = Pattern.compile("NONE|-[0-9]|nothing|none comes|without|below|more than|there are [0-9]|No SHOP|empty");

    private final Due due = new Due();
    private final Map<String, String> sections = new TreeMap<>();
    private final Map<String, boolean[]> quoted = new TreeMap<>();
    private String section = "";
    private String sentence = "";
    private int checks = 1;

    /** Where the document does not lie, the answers are held all the same, only the quotes are not. */
    Edges(Path doc) throws IOException {
        if (!Files.exists(doc)) {
            System.out.println("there is no " + doc + ": the quotes are not held against it");
            return;
        }
        String text = Files.readString(doc).replaceAll("(?m)^```.*$", "");
        Matcher head = HEAD.matcher(text);
        String name = null;
        int from = 0;
        while (head.find()) {
            keep(name, text.substring(from, head.start()));
            name = head.group(1).trim();
            from = head.end();
        }
        keep(name, text.substring(from));
    }

    private void keep(String name, String text) {
        if (name == null || !name.equals(TERMS) && !name.equals("What it is") && !name.matches("[0-9]+")) {
            return;
        }
        // The head of a promise ends with the face of its method.
        String plain = text.replaceAll("(?m)^`[^`]*`:", "").replaceAll("The constants:.*", "").replaceAll("\\s+", " ").trim();
        sections.put(name, plain);
        quoted.put(name, new boolean[plain.length()]);
    }

    /** The answers that follow are due by this sentence, of the Terms or of a promise with a number. */
    void of(String section, String sentence) {
        askedSomething();
        this.section = section;
        this.sentence = sentence;
        checks = 0;
        if (sections.isEmpty()) {
            return;
        }
        String text = sections.getOrDefault(section, "");
        int at = text.indexOf(sentence);
        due.holds("the document has, " + section + ": " + sentence, at >= 0);
        while (at >= 0) {
            Arrays.fill(quoted.get(section), at, at + sentence.length(), true);
            at = text.indexOf(sentence, at + 1);
        }
    }

    void of(int promise, String sentence) {
        of(String.valueOf(promise), sentence);
    }

    private void askedSomething() {
        due.holds(label("something is asked of it"), checks > 0);
    }

    private String label(String call) {
        return section + " \"" + sentence + "\": " + call;
    }

    void is(String call, long got, long want) {
        checks++;
        due.is(label(call), got, want);
    }

    void same(String call, String got, String want) {
        checks++;
        due.holds(label(call + " is " + got + ", due is " + want), got.equals(want));
    }

    /** A call by its name answers as due. */
    void call(FortyBasket x, int want, String name, int... args) {
        is(name + Arrays.toString(args), ask(x, name, args), want);
    }

    /** One answer for each what from 0 on. */
    void row(FortyBasket x, String name, int... want) {
        int[] got = new int[want.length];
        for (int what = 0; what < want.length; what++) {
            got[what] = ask(x, name, what);
        }
        same(name, Arrays.toString(got), Arrays.toString(want));
    }

    /** A call answers as due and nothing happens: an object behind it is as one without it, now and as all is undone. */
    void refused(Supplier<FortyBasket> made, int want, String name, int... args) {
        FortyBasket x = made.get();
        call(x, want, name, args);
        alike(name + Arrays.toString(args), x, made.get());
    }

    /** Nothing can be seen by which two objects differ; both are used up by that. */
    void alike(String call, FortyBasket x, FortyBasket y) {
        same("seen behind " + call, Seen.of(x), Seen.of(y));
        for (int i = 0; i <= 20; i++) {
            is("undo behind " + call, x.undo(), y.undo());
            same("seen undone behind " + call, Seen.of(x), Seen.of(y));
        }
        is("the tape behind " + call, x.shop(), y.shop());
        for (int k = 0; k < 4; k++) {
            is("back behind " + call, x.back(k), y.back(k));
            same("seen in an image behind " + call, Seen.of(x), Seen.of(y));
        }
    }

    static int ask(FortyBasket x, String name, int... args) {
        Class<?>[] types = new Class<?>[args.length];
        Arrays.fill(types, int.class);
        try {
            return (Integer) FortyBasket.class.getMethod(name, types).invoke(x, Arrays.stream(args).boxed().toArray());
        } catch (ReflectiveOperationException e) {
            throw new IllegalStateException(name + Arrays.toString(args), e);
        }
    }

    /** A text is a SHOP of so many THINGS, or has a FAULT. */
    void shop(String text, int want) {
        is("shop of " + text, Due.shop(new FortyBasket(), text), want);
    }

    void rule(String text, int want) {
        is("rule of " + text, Due.rule(new FortyBasket(), text), want);
    }

    /** A NUMBER of a SHOP, behind and ahead of texts, from least to most: these stand, those next to them are a FAULT. */
    void numbers(String ahead, int least, int most, String behind, int things) {
        shop(ahead + least + behind, things);
        shop(ahead + most + behind, things);
        shop(ahead + (most + 1) + behind, Due.fault(ahead.length(), 1));
        if (least > 0) {
            shop(ahead + (least - 1) + behind, Due.fault(ahead.length(), 1));
        }
    }

    void finish() {
        askedSomething();
        for (String name : sections.keySet()) {
            due.holds("a sentence of " + name + " is quoted", contains(quoted.get(name), true));
            Pattern edge = name.matches("[0-9]+") ? EDGE_OF_PROMISE : EDGE_OF_TERMS;
            for (String left : unquoted(name).split("\n")) {
                due.holds("of " + name + " this edge is asked, too: " + left.trim(), !edge.matcher(left).find());
            }
        }
        due.finish();
    }

    private static boolean contains(boolean[] all, boolean sought) {
        for (boolean one : all) {
            if (one == sought) {
                return true;
            }
        }
        return false;
    }

    private String unquoted(String name) {
        StringBuilder b = new StringBuilder(sections.get(name));
        boolean[] taken = quoted.get(name);
        for (int i = 0; i < taken.length; i++) {
            if (taken[i]) {
                b.setCharAt(i, '\n');
            }
        }
        return b.toString();
    }
}
