/** What the tests of the document have in common: answers that are due, games to begin with, refused calls. */
abstract class GameChecks {
    static final int BAD = -200001;
    static final int STATE = -200002;
    static final int FULL = -200003;
    static final int NONE = -200009;

    /** The promise that is tested; 0 is the document's description. */
    static int promise = 0;
    /** The words of the document that are tested, if a test is about one sentence. */
    static String words = "";
    static int wrong = 0;

    interface Recipe {
        void make(ClockedGame x);
    }

    interface Call {
        long on(ClockedGame x);
    }

    static void fault(String told) {
        wrong++;
        System.out.println("promise " + promise + (words.isEmpty() ? "" : " (" + words + ")") + ": " + told);
    }

    static void due(String call, long got, long want) {
        if (got != want) fault(call + " answered " + got + ", due is " + want);
    }

    static void due(String call, float got, float want) {
        if (Float.floatToIntBits(got) != Float.floatToIntBits(want)) fault(call + " answered " + got + ", due is " + want);
    }

    static String recordOf(ClockedGame x) {
        StringBuilder text = new StringBuilder();
        for (int i = 0; i < x.written(); i++) text.append((char) x.sign(i));
        return text.toString();
    }

    static void record(ClockedGame x, String want) {
        String text = recordOf(x);
        if (!text.equals(want)) fault("the record is '" + text + "', due is '" + want + "'");
    }

    static int cell(String name) {
        return name.charAt(0) - 'a' + 6 * (name.charAt(1) - '1');
    }

    /** Makes moves told as "a2a3 a5a4"; each must be possible. */
    static void moves(ClockedGame x, String all) {
        for (String m : all.split(" ")) {
            int answer = x.move(cell(m.substring(0, 2)), cell(m.substring(2)));
            if (answer < 0) due("move " + m, answer, 0);
        }
    }

    static int why(ClockedGame x, String from, String to) {
        return x.why(cell(from), cell(to));
    }

    static void typeAll(ClockedGame x, String text) {
        for (char c : text.toCharArray()) x.type(c);
    }

    static int playText(ClockedGame x, String text) {
        x.clear();
        typeAll(x, text);
        return x.play();
    }

    static ClockedGame made(Recipe recipe) {
        ClockedGame x = new ClockedGame();
        recipe.make(x);
        return x;
    }

    /** A new game in which the record has so many entries, an even number, and no question is open. */
    static ClockedGame filled(int entries) {
        ClockedGame x = made(game -> fill(game, entries));
        due("entries", x.game(4), entries);
        return x;
    }

    /** Claimed flags, and so many entries more, an even number, by offers and refusals. */
    static void fill(ClockedGame x, int entries) {
        x.set(5, 1);
        for (int i = 0; i < entries; i += 2) {
            x.offer(0);
            x.answer(false);
        }
    }

    static ClockedGame withClaimedFlags() {
        return made(GameChecks::claimFlags);
    }

    /** A new game with claimed flags and clocks that show 10. */
    static void claimFlags(ClockedGame x) {
        x.set(0, 10);
        x.set(5, 1);
        x.begin();
    }

    /** The call answers its error, and all that is told and all that goes on is as if it had not been made. */
    static void refused(String name, Recipe recipe, Call call, long error) {
        due(name, call.on(made(recipe)), error);
        for (Call next : new Call[] {GameChecks::historyOf, GameChecks::futureOf}) {
            ClockedGame x = made(recipe);
            ClockedGame twin = made(recipe);
            call.on(x);
            due("what is told behind the refused " + name, x.fingerprint(), twin.fingerprint());
            due("what goes on behind the refused " + name, next.on(x), next.on(twin));
        }
    }

    private static long historyOf(ClockedGame x) {
        long print = 0;
        for (int i = 0; i < 7; i++) print = 31 * (31 * print + x.undo()) + x.fingerprint();
        return print;
    }

    /** Shows what is not told at once: the text, the sealed move, and the moves that can be taken back. */
    private static long futureOf(ClockedGame x) {
        long print = 0;
        Call[] next = {g -> g.play(), g -> g.clear(), g -> g.resume(), g -> g.answer(true), g -> g.ask(0), g -> g.answer(true),
            g -> g.ask(1), g -> g.answer(true), g -> g.pass(1)};
        for (Call call : next) print = 31 * (31 * print + call.on(x)) + x.fingerprint();
        return print;
    }

    static void tell() {
        System.out.println(wrong == 0 ? "all answers are as due" : wrong + " answers are not as due");
        if (wrong != 0) System.exit(1);
    }
}
