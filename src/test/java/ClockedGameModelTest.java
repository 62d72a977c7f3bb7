import java.util.ArrayList;
import java.util.List;
import java.util.regex.Pattern;

/**
 * Plays long runs of calls on the class and on a second, slow program that was written from the
 * document in another way (whole boards and texts are kept, nothing is counted on), and compares
 * every answer and everything that is told behind it. The runs are the same each time.
 */
public final class ClockedGameModelTest {
    private static final int RUNS = 1500;
    private static final int CALLS = 512;
    private static int wrong = 0;

    /** A state of the model; it is copied whole. */
    private static final class Model {
        int[] settings = {1000, 10, 0, 0, 0, 0, 2};
        List<String> boards = new ArrayList<>();
        List<Integer> gains = new ArrayList<>();
        List<String> entries = new ArrayList<>();
        int[] clock = new int[2];
        int[] used = new int[2];
        int[] gone = new int[2];
        int[] back = new int[2];
        int state, reason, ticks, question, asker, sealedFrom, sealedTo;

        Model() {
            begin();
        }

        Model copy() {
            Model m = new Model();
            m.settings = settings.clone();
            m.boards = new ArrayList<>(boards);
            m.gains = new ArrayList<>(gains);
            m.entries = new ArrayList<>(entries);
            m.clock = clock.clone();
            m.used = used.clone();
            m.gone = gone.clone();
            m.back = back.clone();
            m.state = state;
            m.reason = reason;
            m.ticks = ticks;
            m.question = question;
            m.asker = asker;
            m.sealedFrom = sealedFrom;
            m.sealedTo = sealedTo;
            return m;
        }

        void begin() {
            boards.clear();
            boards.add("000000000000............111111111111");
            gains.clear();
            entries.clear();
            clock = new int[] {settings[0], settings[0]};
            used = new int[2];
            gone = new int[2];
            back = new int[2];
            state = reason = ticks = question = 0;
            asker = ClockedGame.NONE;
        }

        String board() {
            return boards.get(boards.size() - 1);
        }

        int moves() {
            return gains.size();
        }

        int turn() {
            return moves() % 2;
        }

        int movesOf(int player) {
            return (moves() + 1 - player) / 2;
        }

        int gainOf(int player) {
            int sum = 0;
            for (int i = player; i < moves(); i += 2) sum += gains.get(i);
            return sum;
        }

        int pieces(int player) {
            return (int) board().chars().filter(c -> c == '0' + player).count();
        }

        int why(int from, int to) {
            char own = (char) ('0' + turn());
            char there = board().charAt(from);
            if (there == '.') return 1;
            if (there != own) return 2;
            int step = turn() == 0 ? 1 : -1;
            int row = from / 6 + step;
            boolean ahead = row >= 0 && row < 6 && to / 6 == row && Math.abs(to % 6 - from % 6) < 2;
            if (!ahead) return 3;
            char aim = board().charAt(to);
            if (aim == own) return 4;
            if (aim != '.' && to % 6 == from % 6) return 5;
            return 0;
        }

        List<Integer> possible() {
            List<Integer> all = new ArrayList<>();
            for (int move = 0; move < 36 * 36; move++) if (why(move / 36, move % 36) == 0) all.add(move);
            return all;
        }

        void end(int newState, int newReason) {
            state = newState;
            reason = newReason;
            question = 0;
            asker = ClockedGame.NONE;
            entries.add("#" + newReason);
        }

        void flags() {
            if (state != 0 || settings[5] == 1) return;
            int mine = turn();
            if (clock[mine] < 0) end(3 - mine, 4);
            else if (clock[1 - mine] < 0) end(2 + mine, 4);
        }

        void pass(int n) {
            int player = turn();
            for (int i = 0; i < n && state == 0; i++) {
                gone[player]++;
                ticks++;
                if (ticks > settings[2]) {
                    used[player]++;
                    clock[player]--;
                }
                flags();
            }
        }

        static String cell(int cell) {
            return "" + "abcdef".charAt(cell % 6) + (cell / 6 + 1);
        }

        int move(int from, int to, String mark) {
            int player = turn();
            char[] next = board().toCharArray();
            boolean taken = next[to] != '.';
            next[to] = next[from];
            next[from] = '.';
            entries.add(mark + ticks + cell(from) + cell(to) + (taken ? "x" : ""));
            boards.add(new String(next));
            gains.add(0);
            int gain = settings[1];
            if (settings[3] != 0 && movesOf(player) % settings[3] == 0) gain += settings[4];
            gains.set(moves() - 1, gain);
            clock[player] += gain;
            ticks = 0;
            question = 0;
            asker = ClockedGame.NONE;
            if (to / 6 == (player == 0 ? 5 : 0)) end(2 + player, 1);
            else if (pieces(1 - player) == 0) end(2 + player, 2);
            else if (possible().isEmpty()) end(2 + player, 3);
            return taken ? 1 : 0;
        }

        void resume() {
            state = 0;
            if (why(sealedFrom, sealedTo) == 0) {
                move(sealedFrom, sealedTo, "*");
            } else {
                entries.add("*" + ticks + cell(sealedFrom) + cell(sealedTo));
                end(3 - turn(), 7);
            }
            flags();
        }

        int backMoves(int player) {
            return (moves() - 1) % 2 == player ? 1 : 2;
        }

        void takeBack() {
            int player = asker;
            int n = backMoves(player);
            for (int i = 0; i < n; i++) {
                int last = moves() - 1;
                clock[last % 2] -= gains.get(last);
                gains.remove(last);
                boards.remove(boards.size() - 1);
            }
            back[player] += n;
            ticks = 0;
            question = 0;
            asker = ClockedGame.NONE;
            entries.add("<" + n);
            flags();
        }

        String text() {
            return String.join(" ", entries);
        }

        int game(int what) {
            switch (what) {
                case 0: return state;
                case 1: return reason;
                case 2: return turn();
                case 3: return moves();
                case 4: return entries.size();
                case 5: return ticks;
                case 6: return question;
                case 7: return asker;
                case 8: return possible().size();
                default: return ClockedGame.BAD;
            }
        }

        int player(int p, int what) {
            if (p < 0 || p > 1) return ClockedGame.BAD;
            switch (what) {
                case 0: return clock[p];
                case 1: return used[p];
                case 2: return gone[p];
                case 3: return gainOf(p);
                case 4: return movesOf(p);
                case 5: return back[p];
                case 6: return pieces(p);
                default: return ClockedGame.BAD;
            }
        }

        long fingerprint() {
            long f = 227;
            for (int v : settings) f = f * 31 + v;
            for (int i = 0; i < 9; i++) f = f * 31 + game(i);
            for (char c : board().toCharArray()) f = f * 31 + (c == '.' ? ClockedGame.NONE : c - '0');
            for (int i = 0; i < 14; i++) f = f * 31 + player(i / 7, i % 7);
            f = f * 31 + text().length();
            for (char c : text().toCharArray()) f = f * 31 + c;
            return f;
        }
    }

    /** The model of the whole object: a state, the states before it, and the buffer. */
    private static final class Whole {
        Model now = new Model();
        List<Model> past = new ArrayList<>();
        String buffer = "";

        static final Pattern WHOLE = Pattern.compile("(\\d{1,4}|[a-f][1-6][a-f][1-6])( (\\d{1,4}|[a-f][1-6][a-f][1-6]))*");
        static final Pattern START = Pattern.compile(
            "((\\d{1,4}|[a-f][1-6][a-f][1-6]) )*(\\d{0,4}|[a-f]([1-6]([a-f][1-6]?)?)?)");

        void keep() {
            keep(now.copy());
        }

        void keep(Model state) {
            past.add(state);
            if (past.size() > 6) past.remove(0);
        }

        boolean noCell(int a, int b) {
            return Math.min(a, b) < 0 || Math.max(a, b) > 35;
        }

        boolean full() {
            return now.entries.size() >= 200;
        }

        int begin() {
            keep();
            int n = now.entries.size();
            now.begin();
            return n;
        }

        int set(int s, int v) {
            int[] low = {1, 0, 0, 0, 0, 0, 0};
            int[] high = {100000, 1000, 1000, 50, 10000, 1, 20};
            if (s < 0 || s > 6 || v < low[s] || v > high[s]) return ClockedGame.BAD;
            keep();
            int old = now.settings[s];
            now.settings[s] = v;
            now.flags();
            return old;
        }

        int passError(int n) {
            if (n < 1 || n > 9999) return ClockedGame.BAD;
            return now.state != 0 ? ClockedGame.STATE : 0;
        }

        int pass(int n) {
            if (passError(n) != 0) return passError(n);
            keep();
            int p = now.turn();
            now.pass(n);
            return now.clock[p];
        }

        int moveError(int a, int b) {
            if (noCell(a, b)) return ClockedGame.BAD;
            if (now.state != 0 || now.why(a, b) != 0) return ClockedGame.STATE;
            return full() ? ClockedGame.FULL : 0;
        }

        int move(int a, int b) {
            if (moveError(a, b) != 0) return moveError(a, b);
            keep();
            return now.move(a, b, "");
        }

        int seal(int a, int b) {
            if (noCell(a, b)) return ClockedGame.BAD;
            if (now.state != 0) return ClockedGame.STATE;
            if (full()) return ClockedGame.FULL;
            keep();
            now.state = 1;
            now.question = 0;
            now.asker = ClockedGame.NONE;
            now.sealedFrom = a;
            now.sealedTo = b;
            return now.turn();
        }

        int resume() {
            if (now.state != 1) return ClockedGame.STATE;
            keep();
            now.resume();
            return now.state;
        }

        int ask(int p) {
            if (p < 0 || p > 1) return ClockedGame.BAD;
            boolean can = now.state == 0 && now.question == 0 && now.movesOf(p) > 0 && now.back[p] < now.settings[6];
            if (!can) return ClockedGame.STATE;
            if (full()) return ClockedGame.FULL;
            keep();
            now.question = 1;
            now.asker = p;
            now.entries.add("?");
            return now.backMoves(p);
        }

        int offer(int p) {
            if (p < 0 || p > 1) return ClockedGame.BAD;
            if (now.state != 0 || now.question != 0) return ClockedGame.STATE;
            if (full()) return ClockedGame.FULL;
            keep();
            now.question = 2;
            now.asker = p;
            now.entries.add("=");
            return 1;
        }

        int answer(boolean yes) {
            if (now.question == 0) return ClockedGame.STATE;
            if (full() && !(yes && now.question == 2)) return ClockedGame.FULL;
            keep();
            if (!yes) {
                now.entries.add("!");
                now.question = 0;
                now.asker = ClockedGame.NONE;
                return 0;
            }
            if (now.question == 2) {
                now.end(4, 6);
                return 1;
            }
            now.takeBack();
            return 2;
        }

        int resign(int p) {
            if (p < 0 || p > 1) return ClockedGame.BAD;
            if (now.state > 1) return ClockedGame.STATE;
            keep();
            now.end(3 - p, 5);
            return now.state;
        }

        int claim(int p) {
            if (p < 0 || p > 1) return ClockedGame.BAD;
            if (now.state != 0 || now.settings[5] == 0 || now.clock[1 - p] >= 0) return ClockedGame.STATE;
            keep();
            now.end(2 + p, 4);
            return now.state;
        }

        int type(int c) {
            if (c < 32 || c > 126) return ClockedGame.BAD;
            if (buffer.length() == 100) return ClockedGame.FULL;
            buffer += (char) c;
            return buffer.length();
        }

        int clear() {
            int n = buffer.length();
            buffer = "";
            return n;
        }

        int play() {
            for (int i = 1; i <= buffer.length(); i++)
                if (!START.matcher(buffer.substring(0, i)).matches()) return -100 - (i - 1);
            if (!WHOLE.matcher(buffer).matches()) return -100 - buffer.length();
            Model old = now.copy();
            String[] parts = buffer.split(" ");
            for (int i = 0; i < parts.length; i++) {
                if (!playPart(parts[i])) {
                    now = old;
                    return -1000 - i;
                }
            }
            keep(old);
            buffer = "";
            return parts.length;
        }

        boolean playPart(String part) {
            if (Character.isDigit(part.charAt(0))) {
                int n = Integer.parseInt(part);
                if (n == 0) return true;
                if (passError(n) != 0) return false;
                now.pass(n);
                return true;
            }
            int from = "abcdef".indexOf(part.charAt(0)) + 6 * "123456".indexOf(part.charAt(1));
            int to = "abcdef".indexOf(part.charAt(2)) + 6 * "123456".indexOf(part.charAt(3));
            if (moveError(from, to) != 0) return false;
            now.move(from, to, "");
            return true;
        }

        int undo() {
            if (past.isEmpty()) return ClockedGame.NONE;
            now = past.remove(past.size() - 1);
            return past.size();
        }
    }

    private static long seed;

    private static int pick(int bound) {
        seed = seed * 6364136223846793005L + 1442695040888963407L;
        return (int) ((seed >>> 33) % bound);
    }

    private static int edge(int least, int greatest) {
        switch (pick(8)) {
            case 0: return least - 1;
            case 1: return least;
            case 2: return greatest;
            case 3: return greatest + 1;
            default: return least + pick(greatest - least + 1);
        }
    }

    private static int cell() {
        return pick(30) == 0 ? (pick(2) == 0 ? -1 - pick(40) : 36 + pick(40)) : pick(36);
    }

    private static int who() {
        return pick(25) == 0 ? (pick(2) == 0 ? -1 : 2) : pick(2);
    }

    private static void due(int run, int call, String name, long got, long want) {
        if (got != want) {
            wrong++;
            System.out.println("run " + run + ", call " + call + ": " + name + " answered " + got + ", due is " + want);
        }
    }

    private static final int[][] RANGES = {{1, 100000}, {0, 1000}, {0, 1000}, {0, 50}, {0, 10000}, {0, 1}, {0, 20}};

    private static int[] aSetting() {
        int s = pick(20) == 0 ? (pick(2) == 0 ? -1 : 7) : pick(7);
        if (s < 0 || s > 6) return new int[] {s, pick(3)};
        int[] range = RANGES[s];
        if (pick(2) == 0) return new int[] {s, edge(range[0], range[1])};
        return new int[] {s, range[0] + pick(Math.min(range[1], 12) + 1 - range[0])};
    }

    private static int[] aMove(Whole m) {
        List<Integer> all = m.now.possible();
        if (all.isEmpty() || pick(12) == 0) return new int[] {cell(), cell()};
        int move = all.get(pick(all.size()));
        for (int i = 0; i < 30 && (isLast(move) || hunting && !takes(m, move)); i++) move = all.get(pick(all.size()));
        for (int i = 0; i < 30 && isLast(move); i++) move = all.get(pick(all.size()));
        return new int[] {move / 36, move % 36};
    }

    private static boolean hunting;

    private static boolean isLast(int move) {
        return move % 36 < 6 || move % 36 > 29;
    }

    private static boolean takes(Whole m, int move) {
        return m.now.board().charAt(move % 36) != '.';
    }

    /** A text that mostly can be played: its parts are tried on a copy of the model. */
    private static String aText(Whole m) {
        Whole trial = new Whole();
        trial.now = m.now.copy();
        StringBuilder text = new StringBuilder();
        int parts = 1 + pick(6);
        for (int i = 0; i < parts; i++) {
            if (i > 0) text.append(' ');
            if (pick(3) == 0) {
                int n = pick(4) == 0 ? pick(10000) : pick(12);
                text.append(pick(4) == 0 ? String.format("%04d", n) : "" + n);
                if (n > 0) trial.pass(n);
            } else {
                int[] move = aMove(trial);
                if (trial.noCell(move[0], move[1])) continue;
                text.append(Model.cell(move[0])).append(Model.cell(move[1]));
                trial.move(move[0], move[1]);
            }
        }
        if (text.length() > 0 && pick(5) == 0) text.setCharAt(pick(text.length()), "0a17f6g G".charAt(pick(9)));
        if (pick(8) == 0) text.append(' ');
        return text.toString();
    }

    private static boolean filling;

    private static int callOne(int run, int call, ClockedGame x, Whole m, int[] weights) {
        int sum = 0;
        for (int w : weights) sum += w;
        int at = pick(sum);
        int kind = 0;
        while (at >= weights[kind]) at -= weights[kind++];
        if (filling && m.now.question != 0 && pick(20) != 0) kind = 8;
        switch (kind) {
            case 0: due(run, call, "begin", x.begin(), m.begin()); return 1;
            case 1: { int[] s = aSetting(); due(run, call, "set", x.set(s[0], s[1]), m.set(s[0], s[1])); return 1; }
            case 2: { int n = pick(3) == 0 ? edge(1, 9999) : 1 + pick(20); due(run, call, "pass", x.pass(n), m.pass(n)); return 1; }
            case 3: { int[] v = aMove(m); due(run, call, "move", x.move(v[0], v[1]), m.move(v[0], v[1])); return 1; }
            case 4: { int[] v = aMove(m); due(run, call, "seal", x.seal(v[0], v[1]), m.seal(v[0], v[1])); return 1; }
            case 5: due(run, call, "resume", x.resume(), m.resume()); return 1;
            case 6: { int p = who(); due(run, call, "ask", x.ask(p), m.ask(p)); return 1; }
            case 7: { int p = who(); due(run, call, "offer", x.offer(p), m.offer(p)); return 1; }
            case 8: { boolean yes = filling ? pick(40) == 0 : pick(20) < 11; due(run, call, "answer", x.answer(yes), m.answer(yes)); return 1; }
            case 9: { int p = who(); due(run, call, "resign", x.resign(p), m.resign(p)); return 1; }
            case 10: { int p = who(); due(run, call, "claim", x.claim(p), m.claim(p)); return 1; }
            case 11: due(run, call, "undo", x.undo(), m.undo()); return 1;
            case 12: return typeAndPlay(run, call, x, m);
            case 13: due(run, call, "clear", x.clear(), m.clear()); return 1;
            case 14: { int c = edge(32, 126); due(run, call, "type", x.type(c), m.type(c)); return 1; }
            default: due(run, call, "play", x.play(), m.play()); return 1;
        }
    }

    private static int typeAndPlay(int run, int call, ClockedGame x, Whole m) {
        String text = aText(m);
        if (m.buffer.length() > 0) due(run, call, "clear", x.clear(), m.clear());
        for (char c : text.toCharArray()) due(run, call, "type", x.type(c), m.type(c));
        due(run, call, "play of " + text, x.play(), m.play());
        return text.length() + 2;
    }

    private static void compareAll(int run, int call, ClockedGame x, Whole m) {
        due(run, call, "fingerprint", x.fingerprint(), m.now.fingerprint());
        int a = cell();
        int b = cell();
        due(run, call, "why", x.why(a, b), m.noCell(a, b) ? ClockedGame.BAD : m.now.why(a, b));
        List<Integer> all = m.now.possible();
        int i = pick(20) - 1;
        due(run, call, "possible", x.possible(i), i < 0 ? ClockedGame.BAD : i < all.size() ? all.get(i) : ClockedGame.NONE);
        String text = m.now.text();
        int s = pick(text.length() + 3) - 1;
        due(run, call, "sign", x.sign(s), s < 0 ? ClockedGame.BAD : s < text.length() ? text.charAt(s) : ClockedGame.NONE);
        for (int p = 0; p < 2; p++) {
            float mean = m.now.movesOf(p) == 0 ? 0 : (float) m.now.gone[p] / m.now.movesOf(p);
            due(run, call, "mean", Float.floatToIntBits(x.mean(p)), Float.floatToIntBits(mean));
        }
        int p = pick(4) - 1;
        int w = pick(11) - 1;
        due(run, call, "player", x.player(p, w), m.now.player(p, w));
        due(run, call, "game", x.game(w), m.now.game(w));
        due(run, call, "setting", x.setting(w), w < 0 || w > 6 ? ClockedGame.BAD : m.now.settings[w]);
        int c = cell();
        int owner = c < 0 || c > 35 ? ClockedGame.BAD : m.now.board().charAt(c) == '.' ? ClockedGame.NONE : m.now.board().charAt(c) - '0';
        due(run, call, "at", x.at(c), owner);
    }

    /** How often each kind of call comes, in the order of callOne. */
    private static final int[][] WEIGHTS = {
        {1, 6, 20, 40, 2, 6, 8, 4, 10, 1, 4, 6, 3, 1, 1, 1},
        {3, 12, 15, 30, 6, 12, 10, 5, 12, 4, 6, 12, 2, 1, 2, 2},
        {0, 1, 6, 8, 1, 6, 40, 60, 10, 0, 0, 2, 0, 0, 0, 0},
        {6, 4, 10, 10, 2, 4, 4, 2, 4, 4, 2, 6, 30, 2, 2, 3},
        {2, 3, 4, 60, 1, 10, 3, 1, 3, 0, 1, 2, 0, 0, 0, 0},
        {1, 4, 3, 30, 1, 6, 16, 1, 16, 0, 0, 22, 0, 0, 0, 0},
    };

    private static void prepare(int run, ClockedGame x, Whole m) {
        int round = run / WEIGHTS.length;
        if (round % 3 == 1) {
            due(run, 0, "set", x.set(0, 1 + run % 60), m.set(0, 1 + run % 60));
            due(run, 0, "set", x.set(1, run % 7), m.set(1, run % 7));
            due(run, 0, "begin", x.begin(), m.begin());
        }
        filling = run % WEIGHTS.length == 2;
        hunting = round % 2 == 1;
        if (round % 4 == 1) due(run, 0, "set", x.set(5, 1), m.set(5, 1));
    }

    public static void main(String[] args) {
        int[] reasons = new int[8];
        int fullest = 0;
        for (int run = 0; run < RUNS && wrong < 20; run++) {
            seed = run * 7919L + 13;
            ClockedGame x = new ClockedGame();
            Whole m = new Whole();
            prepare(run, x, m);
            int before = 0;
            for (int call = 0; call < CALLS && wrong < 20; ) {
                call += callOne(run, call, x, m, WEIGHTS[run % WEIGHTS.length]);
                compareAll(run, call, x, m);
                if (m.now.reason != before) reasons[m.now.reason]++;
                before = m.now.reason;
                fullest = Math.max(fullest, m.now.entries.size());
            }
        }
        StringBuilder told = new StringBuilder("model: ends by reason 1 to 7:");
        for (int i = 1; i < 8; i++) told.append(' ').append(reasons[i]);
        System.out.println(told.append("; most entries: ").append(fullest));
        for (int i : new int[] {1, 2, 4, 5, 6, 7}) {
            if (reasons[i] == 0) {
                wrong++;
                System.out.println("no run came to the end by reason " + i);
            }
        }
        if (fullest < 201) {
            wrong++;
            System.out.println("no run filled the record");
        }
        System.out.println(wrong == 0 ? "all answers are as due" : wrong + " answers are not as due");
        if (wrong != 0) System.exit(1);
    }
}
