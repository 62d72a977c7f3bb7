/**
 * The record of a board game for two, with clocks, taking back by agreement, a sealed move,
 * draws and resignations. The document's promises are told in ../shared/DOC.md.
 */
public final class ClockedGame {
    public static final int BAD = -200001;
    public static final int STATE = -200002;
    public static final int FULL = -200003;
    public static final int NONE = -200009;

    /** Every fault is one of the negative constants above, so 0 is free to say that there is none. */
    private static final int FINE = 0;

    private static final int BASE = 0;
    private static final int INCREMENT = 1;
    private static final int FREE_TICKS = 2;
    private static final int PERIOD = 3;
    private static final int BONUS = 4;
    private static final int FLAGS = 5;
    private static final int MOST_BACK = 6;
    private static final int SETTINGS = 7;
    private static final int[] INITIAL = {1000, 10, 0, 0, 0, 0, 2};
    private static final int[] LEAST = {1, 0, 0, 0, 0, 0, 0};
    private static final int[] GREATEST = {100000, 1000, 1000, 50, 10000, 1, 20};

    private static final int GAME_NUMBERS = 9;
    private static final int PLAYER_NUMBERS = 7;

    private final Game current;
    /** The state before a text is played: the history may not lose its oldest state if a part fails. */
    private final Game before;
    private final History history;
    private final Text text;

    public ClockedGame() {
        current = new Game();
        before = new Game();
        history = new History();
        text = new Text();
    }

    public int begin() {
        history.keep(current);
        int entries = current.entries.count;
        current.start();
        return entries;
    }

    public int set(int setting, int value) {
        int fault = current.faultOfChange(setting, value);
        if (fault != FINE) {
            return fault;
        }
        history.keep(current);
        return current.change(setting, value);
    }

    public int setting(int setting) {
        return current.valueOf(setting);
    }

    public int pass(int ticks) {
        int fault = current.faultOfTicks(ticks);
        if (fault != FINE) {
            return fault;
        }
        history.keep(current);
        return current.letGoBy(ticks);
    }

    public int move(int from, int to) {
        int fault = current.faultOfMove(from, to);
        if (fault != FINE) {
            return fault;
        }
        history.keep(current);
        return current.makeMove(from, to, false) ? 1 : 0;
    }

    public int why(int from, int to) {
        if (!isCell(from) || !isCell(to)) {
            return BAD;
        }
        return current.board.hindrance(current.turn, from, to);
    }

    public int seal(int from, int to) {
        int fault = current.faultOfSeal(from, to);
        if (fault != FINE) {
            return fault;
        }
        history.keep(current);
        return current.breakOff(from, to);
    }

    public int resume() {
        if (current.state != Game.BROKEN_OFF) {
            return STATE;
        }
        history.keep(current);
        return current.goOn();
    }

    public int ask(int player) {
        int fault = current.faultOfAsking(player);
        if (fault != FINE) {
            return fault;
        }
        history.keep(current);
        return current.askToTakeBack(player);
    }

    public int offer(int player) {
        int fault = current.faultOfOffer(player);
        if (fault != FINE) {
            return fault;
        }
        history.keep(current);
        return current.offerDraw(player);
    }

    public int answer(boolean agree) {
        int fault = current.faultOfAnswer(agree);
        if (fault != FINE) {
            return fault;
        }
        history.keep(current);
        return agree ? current.agree() : current.refuse();
    }

    public int resign(int player) {
        if (!isPlayer(player)) {
            return BAD;
        }
        if (current.isOver()) {
            return STATE;
        }
        history.keep(current);
        return current.end(Game.wonBy(other(player)), Game.BY_RESIGNATION);
    }

    public int claim(int player) {
        int fault = current.faultOfClaim(player);
        if (fault != FINE) {
            return fault;
        }
        history.keep(current);
        return current.end(Game.wonBy(player), Game.BY_FLAG);
    }

    public int at(int cell) {
        return isCell(cell) ? current.board.ownerOf(cell) : BAD;
    }

    public int game(int what) {
        return current.numberOf(what);
    }

    public int player(int player, int what) {
        if (!isPlayer(player)) {
            return BAD;
        }
        if (what == 6) {
            return current.board.piecesOf(player);
        }
        return current.side(player).numberOf(what);
    }

    public int possible(int i) {
        if (i < 0) {
            return BAD;
        }
        return current.board.possibleMove(current.turn, i);
    }

    public int written() {
        return current.entries.length;
    }

    public int sign(int i) {
        if (i < 0) {
            return BAD;
        }
        return current.entries.signAt(i);
    }

    public float mean(int player) {
        if (!isPlayer(player)) {
            return -1f;
        }
        Side side = current.side(player);
        if (side.moves == 0) {
            return 0f;
        }
        return (float) side.gone / (float) side.moves;
    }

    public int type(int c) {
        if (c < 32 || c > 126) {
            return BAD;
        }
        if (text.isFull()) {
            return FULL;
        }
        return text.append((char) c);
    }

    public int clear() {
        return text.empty();
    }

    public int play() {
        int place = text.faultPlace();
        if (place != Text.NO_PLACE) {
            return -100 - place;
        }
        before.copyFrom(current);
        int parts = text.countParts();
        int start = 0;
        for (int part = 0; part < parts; part++) {
            if (playPart(start) != FINE) {
                current.copyFrom(before);
                return -1000 - part;
            }
            start = text.endOfPart(start) + 1;
        }
        history.keep(before);
        text.empty();
        return parts;
    }

    public int undo() {
        if (history.count == 0) {
            return NONE;
        }
        history.restoreLatest(current);
        return history.count;
    }

    public long fingerprint() {
        long print = 227;
        for (int setting = 0; setting < SETTINGS; setting++) {
            print = 31 * print + setting(setting);
        }
        for (int what = 0; what < GAME_NUMBERS; what++) {
            print = 31 * print + game(what);
        }
        for (int cell = 0; cell < Board.CELLS; cell++) {
            print = 31 * print + at(cell);
        }
        for (int player = 0; player < 2; player++) {
            for (int what = 0; what < PLAYER_NUMBERS; what++) {
                print = 31 * print + player(player, what);
            }
        }
        print = 31 * print + written();
        for (int i = 0; i < current.entries.length; i++) {
            print = 31 * print + sign(i);
        }
        return print;
    }

    /** Answers a fault alone, not what the call would: a clock may show the very number of a fault. */
    private int playPart(int start) {
        if (text.isNumber(start)) {
            int ticks = text.numberAt(start);
            int fault = ticks == 0 ? FINE : current.faultOfTicks(ticks);
            if (fault == FINE && ticks != 0) {
                current.letGoBy(ticks);
            }
            return fault;
        }
        int from = text.cellAt(start);
        int to = text.cellAt(start + 2);
        int fault = current.faultOfMove(from, to);
        if (fault == FINE) {
            current.makeMove(from, to, false);
        }
        return fault;
    }

    private static boolean isCell(int cell) {
        return cell >= 0 && cell < Board.CELLS;
    }

    private static boolean isPlayer(int player) {
        return player == 0 || player == 1;
    }

    private static int other(int player) {
        return player == 0 ? 1 : 0;
    }

    /** All that the history keeps: the settings, and a game with its record. */
    private static final class Game {
        private static final int RUNS = 0;
        private static final int BROKEN_OFF = 1;
        private static final int WON_BY_FIRST = 2;
        private static final int WON_BY_SECOND = 3;
        private static final int DRAWN = 4;

        private static final int BY_LAST_ROW = 1;
        private static final int BY_LAST_PIECE = 2;
        private static final int BY_NO_MOVE = 3;
        private static final int BY_FLAG = 4;
        private static final int BY_RESIGNATION = 5;
        private static final int BY_AGREEMENT = 6;
        private static final int BY_SEALED_MOVE = 7;

        private static final int NO_QUESTION = 0;
        private static final int TAKE_BACK = 1;
        private static final int DRAW = 2;

        private final int[] settings = new int[SETTINGS];
        private final Board board = new Board();
        private final Side first = new Side();
        private final Side second = new Side();
        private final Made made = new Made();
        private final Entries entries = new Entries();
        private int state;
        private int reason;
        private int turn;
        private int turnTicks;
        private int question;
        private int asker;
        private int sealedFrom;
        private int sealedTo;

        Game() {
            System.arraycopy(INITIAL, 0, settings, 0, SETTINGS);
            start();
        }

        void copyFrom(Game source) {
            System.arraycopy(source.settings, 0, settings, 0, SETTINGS);
            board.copyFrom(source.board);
            first.copyFrom(source.first);
            second.copyFrom(source.second);
            made.copyFrom(source.made);
            entries.copyFrom(source.entries);
            state = source.state;
            reason = source.reason;
            turn = source.turn;
            turnTicks = source.turnTicks;
            question = source.question;
            asker = source.asker;
            sealedFrom = source.sealedFrom;
            sealedTo = source.sealedTo;
        }

        void start() {
            board.setUp();
            first.start(settings[BASE]);
            second.start(settings[BASE]);
            made.count = 0;
            entries.start();
            state = RUNS;
            reason = 0;
            turn = 0;
            turnTicks = 0;
            sealedFrom = 0;
            sealedTo = 0;
            closeQuestion();
        }

        Side side(int player) {
            return player == 0 ? first : second;
        }

        boolean isOver() {
            return state != RUNS && state != BROKEN_OFF;
        }

        int numberOf(int what) {
            switch (what) {
                case 0: return state;
                case 1: return reason;
                case 2: return turn;
                case 3: return made.count;
                case 4: return entries.count;
                case 5: return turnTicks;
                case 6: return question;
                case 7: return asker;
                case 8: return board.countPossible(turn);
                default: return BAD;
            }
        }

        // settings

        int valueOf(int setting) {
            return setting >= 0 && setting < settings.length ? settings[setting] : BAD;
        }

        int faultOfChange(int setting, int value) {
            if (setting < 0 || setting >= LEAST.length || setting >= GREATEST.length) {
                return BAD;
            }
            return value < LEAST[setting] || value > GREATEST[setting] ? BAD : FINE;
        }

        int change(int setting, int value) {
            int previous = valueOf(setting);
            if (setting >= 0 && setting < settings.length) {
                settings[setting] = value;
            }
            lookAtFlags();
            return previous;
        }

        // time

        int faultOfTicks(int ticks) {
            if (ticks < 1 || ticks > 9999) {
                return BAD;
            }
            return state == RUNS ? FINE : STATE;
        }

        /** Answers what the clock of the player shows whose turn it was. */
        int letGoBy(int ticks) {
            Side side = side(turn);
            int free = Math.max(0, settings[FREE_TICKS] - turnTicks);
            int going = ticks;
            if (flagsFall()) {
                going = Math.min(ticks, free + side.clock + 1);
            }
            turnTicks += going;
            side.spend(going, Math.max(0, going - free));
            lookAtFlags();
            return side.clock;
        }

        boolean flagsFall() {
            return settings[FLAGS] == 0;
        }

        void lookAtFlags() {
            if (state != RUNS || !flagsFall()) {
                return;
            }
            if (side(turn).clock < 0) {
                end(wonBy(other(turn)), BY_FLAG);
            } else if (side(other(turn)).clock < 0) {
                end(wonBy(turn), BY_FLAG);
            }
        }

        int faultOfClaim(int player) {
            if (!isPlayer(player)) {
                return BAD;
            }
            if (state != RUNS || flagsFall() || side(other(player)).clock >= 0) {
                return STATE;
            }
            return FINE;
        }

        // moves

        int faultOfMove(int from, int to) {
            if (!isCell(from) || !isCell(to)) {
                return BAD;
            }
            if (state != RUNS || board.hindrance(turn, from, to) != 0) {
                return STATE;
            }
            return entries.isFull() ? FULL : FINE;
        }

        /** Answers whether a piece was taken. */
        boolean makeMove(int from, int to, boolean sealed) {
            int mover = turn;
            int target = board.ownerOf(to);
            boolean taking = target == other(mover);
            entries.writeMove(sealed, turnTicks, from, to, taking);
            board.carry(from, to);
            Side side = side(mover);
            side.moves++;
            int added = additionFor(side.moves);
            side.add(added);
            made.push(from, to, target, added);
            closeQuestion();
            turn = other(mover);
            turnTicks = 0;
            endByMove(mover, to);
            return taking;
        }

        int additionFor(int moves) {
            int period = settings[PERIOD];
            if (period > 0 && moves % period == 0) {
                return settings[INCREMENT] + settings[BONUS];
            }
            return settings[INCREMENT];
        }

        void endByMove(int mover, int to) {
            int opponent = other(mover);
            if (board.isLastRow(mover, to)) {
                end(wonBy(mover), BY_LAST_ROW);
            } else if (board.piecesOf(opponent) == 0) {
                end(wonBy(mover), BY_LAST_PIECE);
            } else if (board.possibleMove(opponent, 0) == NONE) {
                end(wonBy(mover), BY_NO_MOVE);
            }
        }

        // the sealed move

        int faultOfSeal(int from, int to) {
            if (!isCell(from) || !isCell(to)) {
                return BAD;
            }
            if (state != RUNS) {
                return STATE;
            }
            return entries.isFull() ? FULL : FINE;
        }

        int breakOff(int from, int to) {
            sealedFrom = from;
            sealedTo = to;
            closeQuestion();
            state = BROKEN_OFF;
            return turn;
        }

        int goOn() {
            state = RUNS;
            if (board.hindrance(turn, sealedFrom, sealedTo) == 0) {
                makeMove(sealedFrom, sealedTo, true);
            } else {
                entries.writeMove(true, turnTicks, sealedFrom, sealedTo, false);
                end(wonBy(other(turn)), BY_SEALED_MOVE);
            }
            lookAtFlags();
            return state;
        }

        // questions

        int faultOfAsking(int player) {
            if (!isPlayer(player)) {
                return BAD;
            }
            Side side = side(player);
            if (!canAskAnything() || side.moves == 0 || side.takenBack >= settings[MOST_BACK]) {
                return STATE;
            }
            return entries.isFull() ? FULL : FINE;
        }

        int faultOfOffer(int player) {
            if (!isPlayer(player)) {
                return BAD;
            }
            if (!canAskAnything()) {
                return STATE;
            }
            return entries.isFull() ? FULL : FINE;
        }

        int faultOfAnswer(boolean agree) {
            if (question == NO_QUESTION) {
                return STATE;
            }
            boolean onlyEnds = agree && question == DRAW;
            return entries.isFull() && !onlyEnds ? FULL : FINE;
        }

        boolean canAskAnything() {
            return state == RUNS && question == NO_QUESTION;
        }

        int askToTakeBack(int player) {
            question = TAKE_BACK;
            asker = player;
            entries.writeSign('?');
            return movesBackTo(player);
        }

        int offerDraw(int player) {
            question = DRAW;
            asker = player;
            entries.writeSign('=');
            return 1;
        }

        int refuse() {
            entries.writeSign('!');
            closeQuestion();
            return 0;
        }

        int agree() {
            if (question == DRAW) {
                end(DRAWN, BY_AGREEMENT);
                return 1;
            }
            takeBack(asker);
            return 2;
        }

        /** The moves go by turns, so the last one of a player is the last or the last but one. */
        int movesBackTo(int player) {
            return turn == player ? 2 : 1;
        }

        void takeBack(int player) {
            int moves = movesBackTo(player);
            for (int i = 0; i < moves; i++) {
                takeBackLast();
            }
            side(player).takenBack += moves;
            turnTicks = 0;
            closeQuestion();
            entries.writeTakenBack(moves);
            lookAtFlags();
        }

        void takeBackLast() {
            if (!made.pop()) {
                return;
            }
            turn = other(turn);
            board.carryBack(made.poppedFrom, made.poppedTo, made.poppedTarget);
            Side side = side(turn);
            side.moves--;
            side.add(-made.poppedAdded);
        }

        void closeQuestion() {
            question = NO_QUESTION;
            asker = NONE;
        }

        // the end

        static int wonBy(int player) {
            return player == 0 ? WON_BY_FIRST : WON_BY_SECOND;
        }

        /** Answers the state of the game then. */
        int end(int endState, int endReason) {
            state = endState;
            reason = endReason;
            closeQuestion();
            entries.writeEnd(endReason);
            return state;
        }
    }

    /** Where the pieces are, and which moves that leaves. */
    private static final class Board {
        private static final int COLUMNS = 6;
        private static final int ROWS = 6;
        private static final int CELLS = COLUMNS * ROWS;

        private final int[] owners = new int[CELLS];

        void setUp() {
            for (int cell = 0; cell < owners.length; cell++) {
                int row = cell / COLUMNS;
                if (row < 2) {
                    owners[cell] = 0;
                } else if (row < ROWS - 2) {
                    owners[cell] = NONE;
                } else {
                    owners[cell] = 1;
                }
            }
        }

        void copyFrom(Board source) {
            System.arraycopy(source.owners, 0, owners, 0, CELLS);
        }

        int ownerOf(int cell) {
            return cell >= 0 && cell < owners.length ? owners[cell] : NONE;
        }

        void put(int cell, int owner) {
            if (cell >= 0 && cell < owners.length) {
                owners[cell] = owner;
            }
        }

        void carry(int from, int to) {
            put(to, ownerOf(from));
            put(from, NONE);
        }

        void carryBack(int from, int to, int target) {
            put(from, ownerOf(to));
            put(to, target);
        }

        int piecesOf(int player) {
            int pieces = 0;
            for (int cell = 0; cell < owners.length; cell++) {
                if (owners[cell] == player) {
                    pieces++;
                }
            }
            return pieces;
        }

        boolean isLastRow(int player, int cell) {
            return cell / COLUMNS == (player == 0 ? ROWS - 1 : 0);
        }

        /** The number that tells why a player can't make a move, or 0; both cells are on the board. */
        int hindrance(int player, int from, int to) {
            int owner = ownerOf(from);
            if (owner == NONE) {
                return 1;
            }
            if (owner != player) {
                return 2;
            }
            if (!isAhead(player, from, to)) {
                return 3;
            }
            int target = ownerOf(to);
            if (target == player) {
                return 4;
            }
            boolean straight = from % COLUMNS == to % COLUMNS;
            return straight && target != NONE ? 5 : 0;
        }

        boolean isAhead(int player, int from, int to) {
            int rows = to / COLUMNS - from / COLUMNS;
            int columns = to % COLUMNS - from % COLUMNS;
            return rows == forward(player) && columns >= -1 && columns <= 1;
        }

        int forward(int player) {
            return player == 0 ? 1 : -1;
        }

        int countPossible(int player) {
            int found = 0;
            for (int from = 0; from < CELLS; from++) {
                int ahead = from + COLUMNS * forward(player);
                for (int to = ahead - 1; to <= ahead + 1; to++) {
                    if (isCell(to) && hindrance(player, from, to) == 0) {
                        found++;
                    }
                }
            }
            return found;
        }

        int possibleMove(int player, int i) {
            int found = 0;
            for (int from = 0; from < CELLS; from++) {
                int ahead = from + COLUMNS * forward(player);
                for (int to = ahead - 1; to <= ahead + 1; to++) {
                    if (!isCell(to) || hindrance(player, from, to) != 0) {
                        continue;
                    }
                    if (found == i) {
                        return CELLS * from + to;
                    }
                    found++;
                }
            }
            return NONE;
        }
    }

    /** The clock and the counts of one player. */
    private static final class Side {
        private int clock;
        private int used;
        private int gone;
        private int added;
        private int moves;
        private int takenBack;

        void start(int base) {
            clock = base;
            used = 0;
            gone = 0;
            added = 0;
            moves = 0;
            takenBack = 0;
        }

        void copyFrom(Side source) {
            clock = source.clock;
            used = source.used;
            gone = source.gone;
            added = source.added;
            moves = source.moves;
            takenBack = source.takenBack;
        }

        void spend(int ticks, int counted) {
            gone += ticks;
            used += counted;
            clock -= counted;
        }

        void add(int ticks) {
            clock += ticks;
            added += ticks;
        }

        int numberOf(int what) {
            switch (what) {
                case 0: return clock;
                case 1: return used;
                case 2: return gone;
                case 3: return added;
                case 4: return moves;
                case 5: return takenBack;
                default: return BAD;
            }
        }
    }

    /** The moves that are made and not taken back, with what is needed to take them back. */
    private static final class Made {
        private final int[] from = new int[Entries.MOST];
        private final int[] to = new int[Entries.MOST];
        private final int[] added = new int[Entries.MOST];
        private final int[] target = new int[Entries.MOST];
        private int count;
        private int poppedFrom;
        private int poppedTo;
        private int poppedTarget;
        private int poppedAdded;

        void copyFrom(Made source) {
            int moves = Math.max(0, Math.min(source.count, Entries.MOST));
            System.arraycopy(source.from, 0, from, 0, moves);
            System.arraycopy(source.to, 0, to, 0, moves);
            System.arraycopy(source.added, 0, added, 0, moves);
            System.arraycopy(source.target, 0, target, 0, moves);
            count = moves;
        }

        /** There is always room: each move has an entry in the record. */
        void push(int fromCell, int toCell, int targetOwner, int addition) {
            if (count < 0 || count >= Entries.MOST) {
                return;
            }
            from[count] = fromCell;
            to[count] = toCell;
            added[count] = addition;
            target[count] = targetOwner;
            count++;
        }

        boolean pop() {
            if (count < 1 || count > Entries.MOST) {
                return false;
            }
            count--;
            poppedFrom = from[count];
            poppedTo = to[count];
            poppedAdded = added[count];
            poppedTarget = target[count];
            return true;
        }
    }

    /** The entries as they are written. */
    private static final class Entries {
        private static final int MOST = 200;
        /** A blank, a star, ten digits, four signs of cells, and an x. */
        private static final int LONGEST = 17;
        /** The end has room behind a full record. */
        private static final int MOST_SIGNS = (MOST + 1) * LONGEST;

        private final char[] signs = new char[MOST_SIGNS];
        private int length;
        private int count;

        void start() {
            length = 0;
            count = 0;
        }

        void copyFrom(Entries source) {
            int used = Math.max(0, Math.min(source.length, MOST_SIGNS));
            System.arraycopy(source.signs, 0, signs, 0, used);
            length = used;
            count = source.count;
        }

        boolean isFull() {
            return count >= MOST;
        }

        int signAt(int i) {
            return i >= 0 && i < length && i < signs.length ? signs[i] : NONE;
        }

        void writeMove(boolean sealed, int ticks, int from, int to, boolean taking) {
            beginEntry();
            if (sealed) {
                put('*');
            }
            putNumber(ticks);
            putCell(from);
            putCell(to);
            if (taking) {
                put('x');
            }
        }

        void writeTakenBack(int moves) {
            beginEntry();
            put('<');
            putDigit(moves);
        }

        void writeEnd(int reason) {
            beginEntry();
            put('#');
            putDigit(reason);
        }

        void writeSign(char sign) {
            beginEntry();
            put(sign);
        }

        private void beginEntry() {
            if (count > 0) {
                put(' ');
            }
            count++;
        }

        private void putCell(int cell) {
            put((char) ('a' + cell % Board.COLUMNS));
            put((char) ('1' + cell / Board.COLUMNS));
        }

        private void putNumber(int number) {
            int unit = 1;
            for (int digits = 1; digits < 10 && unit <= number / 10; digits++) {
                unit *= 10;
            }
            for (; unit > 0; unit /= 10) {
                putDigit(number / unit % 10);
            }
        }

        private void putDigit(int digit) {
            put((char) ('0' + digit));
        }

        private void put(char sign) {
            if (length >= 0 && length < signs.length) {
                signs[length] = sign;
                length++;
            }
        }
    }

    /** The states before the latest acts, the oldest one at the place first, the others behind it in a ring. */
    private static final class History {
        private static final int MOST = 6;

        private final Game[] states = new Game[MOST];
        private int first;
        private int count;

        History() {
            for (int i = 0; i < states.length; i++) {
                states[i] = new Game();
            }
        }

        void keep(Game state) {
            if (count == MOST) {
                first = (first + 1) % MOST;
                count--;
            }
            Game kept = behindFirst(count);
            if (kept != null) {
                kept.copyFrom(state);
                count++;
            }
        }

        void restoreLatest(Game state) {
            Game kept = behindFirst(count - 1);
            if (kept != null) {
                state.copyFrom(kept);
                count--;
            }
        }

        private Game behindFirst(int steps) {
            int place = (first + steps) % MOST;
            return place >= 0 && place < states.length ? states[place] : null;
        }
    }

    /** The buffer, and how its signs are read. */
    private static final class Text {
        private static final int MOST_SIGNS = 100;
        private static final int NO_PLACE = -1;

        /** What has been read of a part: nothing, one to four digits (1 to 4), or some of a move. */
        private static final int AT_START = 0;
        private static final int FOUR_DIGITS = 4;
        private static final int COLUMN_READ = 5;
        private static final int CELL_READ = 6;
        private static final int SECOND_COLUMN_READ = 7;
        private static final int MOVE_READ = 8;
        private static final int CANNOT_STAND = -1;

        private final char[] signs = new char[MOST_SIGNS];
        private int length;

        boolean isFull() {
            return length >= MOST_SIGNS;
        }

        int append(char sign) {
            if (length >= 0 && length < signs.length) {
                signs[length] = sign;
                length++;
            }
            return length;
        }

        int empty() {
            int before = length;
            length = 0;
            return before;
        }

        /** A blank stands for what is behind the end: a part ends there too. */
        char signAt(int i) {
            return i >= 0 && i < length && i < signs.length ? signs[i] : ' ';
        }

        int faultPlace() {
            int read = AT_START;
            for (int i = 0; i < length; i++) {
                read = readSign(read, signAt(i));
                if (read == CANNOT_STAND) {
                    return i;
                }
            }
            return isPart(read) ? NO_PLACE : length;
        }

        private boolean isPart(int read) {
            return isNumberRead(read) || read == MOVE_READ;
        }

        private boolean isNumberRead(int read) {
            return read > AT_START && read <= FOUR_DIGITS;
        }

        private int readSign(int read, char sign) {
            if (isPart(read) && sign == ' ') {
                return AT_START;
            }
            if (read < FOUR_DIGITS && isDigit(sign)) {
                return read + 1;
            }
            if (read == AT_START && isColumn(sign)) {
                return COLUMN_READ;
            }
            if (read == CELL_READ && isColumn(sign)) {
                return SECOND_COLUMN_READ;
            }
            if ((read == COLUMN_READ || read == SECOND_COLUMN_READ) && isRow(sign)) {
                return read + 1;
            }
            return CANNOT_STAND;
        }

        private boolean isDigit(char sign) {
            return sign >= '0' && sign <= '9';
        }

        private boolean isColumn(char sign) {
            return sign >= 'a' && sign <= 'f';
        }

        private boolean isRow(char sign) {
            return sign >= '1' && sign <= '6';
        }

        /** The number of parts of a text without a fault: there is a blank between each two. */
        int countParts() {
            int parts = 1;
            for (int i = 0; i < length; i++) {
                if (signAt(i) == ' ') {
                    parts++;
                }
            }
            return parts;
        }

        int endOfPart(int start) {
            int end = start;
            while (end < length && signAt(end) != ' ') {
                end++;
            }
            return end;
        }

        boolean isNumber(int start) {
            return isDigit(signAt(start));
        }

        int numberAt(int start) {
            int number = 0;
            for (int i = start; i < length && isDigit(signAt(i)); i++) {
                number = 10 * number + signAt(i) - '0';
            }
            return number;
        }

        int cellAt(int start) {
            return Board.COLUMNS * (signAt(start + 1) - '1') + signAt(start) - 'a';
        }
    }
}
