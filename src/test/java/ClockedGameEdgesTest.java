import java.lang.reflect.Method;
import java.math.BigInteger;
import java.util.Arrays;
import java.util.Comparator;

/**
 * For each sentence of the document that names a boundary case, a test of its own: too small and too
 * large, empty and full, round the border, the refused call. Every method without arguments but main
 * is such a test, and begins with the sentence.
 */
public final class ClockedGameEdgesTest extends GameChecks {
    private static final int[] LEAST = {1, 0, 0, 0, 0, 0, 0};
    private static final int[] GREATEST = {100000, 1000, 1000, 50, 10000, 1, 20};
    private static final int[] NO_CELLS = {-1, 36, 37, -36, 100, Integer.MIN_VALUE, Integer.MAX_VALUE};
    private static final int[] NO_PLAYERS = {-1, 2, 3, Integer.MIN_VALUE, Integer.MAX_VALUE};

    /** Then player 0 wins by b5a6, b5b6 is blocked, and after a move of player 0 player 1 wins by e2d1 or e2f1. */
    private static final String NEAR_LAST_ROWS = "a2a3 f5f4 a3a4 f4f3 a4b5 f3e2";
    /** Then player 0 takes the last piece of player 1 by c4b5. */
    private static final String LAST_PIECE_OF_1 = "c2c3 e5d4 c3d4 e6e5 d4c5 e5e4 f2f3 b5a4 f3e4 b6b5 e4f5 f6e5 d2d3 e5e4 d3e4 "
        + "a4a3 b2a3 a5a4 e4d5 b5b4 a3b4 a6b5 e2e3 a4b3 a2b3 d6c5 b4c5 b5c4 b3c4 c6b5";
    /** Then player 1 takes the last piece of player 0 by c3b2. */
    private static final String LAST_PIECE_OF_0 = "b2a3 c5d4 c1b2 b5a4 c2c3 d4c3 d2d3 c3b2 e2e3 d5e4 d1c2 e4d3 e1e2 d3e2 a2b3 "
        + "a4b3 b1a2 b3a2 e3f4 e5f4 a3b4 a5b4 f2e3 f4e3 f1f2 e3f2 c2c3 b4c3 a1b2";

    private static int sentences = 0;

    private static void sentence(int ofPromise, String itsWords) {
        promise = ofPromise;
        words = itsWords;
        sentences++;
    }

    private static void everyAnswer(String name, Call[] calls, long want) {
        for (int i = 0; i < calls.length; i++) due(name + ", call " + i, calls[i].on(new ClockedGame()), want);
    }

    private static ClockedGame game(String itsMoves) {
        return made(x -> moves(x, itsMoves));
    }

    private static void brokenOff(ClockedGame x) {
        x.seal(cell("a2"), cell("a3"));
    }

    private static void over(ClockedGame x) {
        x.resign(1);
    }

    private static void fullRecord(ClockedGame x) {
        fill(x, 200);
    }

    /** 200 entries, and the last one is an open offer of player 1. */
    private static void fullWithOffer(ClockedGame x) {
        fill(x, 198);
        moves(x, "a2a3");
        x.offer(1);
    }

    /** 200 entries, and the last one is an open question of player 0 about taking back. */
    private static void fullWithAsking(ClockedGame x) {
        fill(x, 198);
        moves(x, "a2a3");
        x.ask(0);
    }

    // ---- what it is

    private static void calls512() {
        sentence(0, "An object is used for at most 512 calls after it has been made");
        ClockedGame x = new ClockedGame();
        x.set(5, 1);
        for (int i = 0; i < 507; i++) x.pass(9999);
        due("move", x.move(6, 12), 0);
        due("clock", x.player(0, 0), 1000 - 507 * 9999 + 10);
        due("written", x.written(), 11);
        due("the last digit of 5069493", x.sign(6), '3');
    }

    private static void callsBehind512() {
        sentence(0, "what later calls answer is free");
        ClockedGame x = new ClockedGame();
        x.set(5, 1);
        for (int i = 0; i < 220000; i++) x.pass(9999);
        x.move(6, 12);
        x.fingerprint();
        x.set(5, 0);
        x.undo();
        x.seal(24, 18);
        x.resume();
        x.ask(0);
        x.answer(true);
        x.fingerprint();
        x.mean(0);
    }

    // ---- the board

    private static void columnsAndRows() {
        sentence(0, "THE BOARD has 6 columns, a to f (0 to 5), and 6 rows, 1 to 6 (0 to 5)");
        for (int i : NO_CELLS) due("at " + i, new ClockedGame().at(i), BAD);
        record(made(x -> { moves(x, "a2a3 f5f4"); x.seal(0, 35); x.resume(); }), "0a2a3 0f5f4 *0a1f6 #7");
        record(made(x -> { x.seal(5, 30); x.resume(); }), "*0f1a6 #7");
    }

    private static void cellsBegin() {
        sentence(0, "Player 0 has pieces in the rows 0 and 1 at first, player 1 in the rows 4 and 5");
        ClockedGame x = new ClockedGame();
        int[] cells = {0, 5, 6, 11, 12, 17, 18, 23, 24, 29, 30, 35};
        int[] owners = {0, 0, 0, 0, NONE, NONE, NONE, NONE, 1, 1, 1, 1};
        for (int i = 0; i < cells.length; i++) due("at " + cells[i], x.at(cells[i]), owners[i]);
    }

    private static void turns() {
        sentence(0, "Player 0 moves first, then the players move by turns");
        ClockedGame x = new ClockedGame();
        due("player 1 first", x.move(cell("a5"), cell("a4")), STATE);
        moves(x, "a2a3");
        due("player 0 again", x.move(cell("b2"), cell("b3")), STATE);
        moves(x, "a5a4");
        due("player 1 again", x.move(cell("b5"), cell("b4")), STATE);
    }

    private static void roundTheBorder() {
        sentence(0, "straight ahead to an empty cell, or to one of the two cells beside that one");
        ClockedGame x = new ClockedGame();
        String[] ofPlayer0 = {"f2a4", "f2a3", "f2f4", "a2f2", "a2f3", "a2f1", "f1a3", "f2b3", "a2c3", "f2d3", "c2a3", "c2e3"};
        for (String m : ofPlayer0) due("why " + m, why(x, m.substring(0, 2), m.substring(2)), 3);
        due("at the left border", why(x, "a2", "b3"), 0);
        due("at the right border", why(x, "f2", "e3"), 0);
        moves(x, "c2c3");
        String[] ofPlayer1 = {"a5f3", "a5f4", "a5f5", "f5a5", "f5a4", "f5a6", "a5c4", "f5f3", "f5d4", "d5b4", "d5f4"};
        for (String m : ofPlayer1) due("why " + m, why(x, m.substring(0, 2), m.substring(2)), 3);
        due("at the left border", why(x, "a5", "b4"), 0);
        due("at the right border", why(x, "f5", "e4"), 0);
    }

    private static void oneRow() {
        sentence(0, "A piece of player 0 goes one row up, one of player 1 one row down");
        ClockedGame x = game("c2c3 c5c4");
        int[] rows = {3, 3, 3, 5, 3, 3};
        for (int row = 0; row < 6; row++) due("c3 to row " + row, x.why(cell("c3"), 6 * row + 2), rows[row]);
        due("c1 ahead", why(x, "c1", "c2"), 0);
        moves(x, "c1c2");
        int[] down = {3, 3, 5, 3, 3, 3};
        for (int row = 0; row < 6; row++) due("c4 to row " + row, x.why(cell("c4"), 6 * row + 2), down[row]);
        due("c6 ahead", why(x, "c6", "c5"), 0);
    }

    private static void takenBeside() {
        sentence(0, "if this is empty or has a piece of the other player, which is taken then");
        ClockedGame x = game("b2b3 a5a4");
        due("an own piece", why(x, "a2", "b3"), 4);
        due("straight ahead", why(x, "b3", "b4"), 0);
        due("taking", x.move(cell("b3"), cell("a4")), 1);
        due("owner", x.at(cell("a4")), 0);
        due("pieces", x.player(1, 6), 11);
        due("pieces", x.player(0, 6), 12);
    }

    private static void lastRowOf0() {
        sentence(0, "a piece comes to the last row (5 for player 0");
        ClockedGame x = game(NEAR_LAST_ROWS);
        due("row 4 is not the last", x.game(0), 0);
        moves(x, "b5a6");
        due("state", x.game(0), 2);
        due("reason", x.game(1), 1);
    }

    private static void lastRowOf1() {
        sentence(0, "0 for player 1)");
        ClockedGame x = game(NEAR_LAST_ROWS + " a1a2");
        due("row 1 is not the last", x.game(0), 0);
        moves(x, "e2f1");
        due("state", x.game(0), 3);
        due("reason", x.game(1), 1);
    }

    private static void lastPieceOf1() {
        sentence(0, "or the last piece of the other player is taken");
        ClockedGame x = game(LAST_PIECE_OF_1);
        due("one piece is left", x.player(1, 6), 1);
        due("it runs", x.game(0), 0);
        moves(x, "c4b5");
        due("none is left", x.player(1, 6), 0);
        due("state", x.game(0), 2);
        due("reason", x.game(1), 2);
        record(made(g -> { moves(g, LAST_PIECE_OF_1 + " c4b5"); g.begin(); }), "");
    }

    private static void lastPieceOf0() {
        sentence(0, "or the last piece of the other player is taken");
        ClockedGame x = game(LAST_PIECE_OF_0);
        due("one piece is left", x.player(0, 6), 1);
        due("it runs", x.game(0), 0);
        moves(x, "c3b2");
        due("none is left", x.player(0, 6), 0);
        due("state", x.game(0), 3);
        due("reason", x.game(1), 2);
    }

    private static void severalReasons() {
        sentence(0, "(If several of 1 to 3 apply, the first one of them is told.)");
        ClockedGame x = game(LAST_PIECE_OF_1 + " c4b5");
        due("no possible moves either", x.game(8), 0);
        due("reason", x.game(1), 2);
        due("last digit", x.sign(x.written() - 1), '2');
        due("one end", x.game(4), 32);
    }

    /** It can't come up on this board, so all that can be seen is that no game runs on without a possible move. */
    private static void noPossibleMove() {
        sentence(0, "A player who has no possible move loses at once when it would be the turn of this player");
        for (int run = 0; run < 300; run++) {
            ClockedGame x = new ClockedGame();
            for (int i = 0; i < 90 && x.game(0) == 0; i++) {
                int moves = x.game(8);
                due("there is a possible move", moves > 0 ? 1 : 0, 1);
                int move = x.possible((run * 31 + i * i * 7 + run * i) % Math.max(1, moves));
                x.move(move / 36, move % 36);
            }
            due("the game is over", x.game(0) > 1 ? 1 : 0, 1);
        }
    }

    // ---- time

    private static void settingRanges() {
        sentence(0, "CLOCK settings with their ranges and initial values");
        int[] initial = {1000, 10, 0, 0, 0, 0, 2};
        for (int i = 0; i < 7; i++) {
            ClockedGame x = new ClockedGame();
            due("setting " + i, x.setting(i), initial[i]);
            due("too small " + i, x.set(i, LEAST[i] - 1), BAD);
            due("too large " + i, x.set(i, GREATEST[i] + 1), BAD);
            due("the least " + i, x.set(i, LEAST[i]), initial[i]);
            due("the greatest " + i, x.set(i, GREATEST[i]), LEAST[i]);
            due("setting " + i, x.setting(i), GREATEST[i]);
        }
    }

    private static void baseAtFirst() {
        sentence(0, "A player has a clock, which shows the base at first");
        for (int base : new int[] {1, 100000}) {
            ClockedGame x = made(g -> { g.set(0, base); g.begin(); });
            due("clock of player 0", x.player(0, 0), base);
            due("clock of player 1", x.player(1, 0), base);
        }
        ClockedGame x = made(g -> { g.set(0, 1); g.begin(); });
        due("the least base", x.pass(1), 0);
        due("state", x.game(0), 0);
        due("one tick more", x.pass(1), -1);
        due("state", x.game(0), 3);
    }

    private static void freeTicks() {
        sentence(0, "Of the ticks that go by during a turn, the first ones, as many as are free, do not count");
        ClockedGame x = made(g -> g.set(2, 5));
        due("four of five", x.pass(4), 1000);
        due("the fifth", x.pass(1), 1000);
        due("used", x.player(0, 1), 0);
        due("the sixth", x.pass(1), 999);
        due("used", x.player(0, 1), 1);
        due("gone", x.player(0, 2), 6);
        moves(x, "a2a3");
        due("player 1 has five, too", x.pass(6), 999);
        moves(x, "a5a4");
        due("a new turn has five", x.pass(6), 999 + 10 - 1);
    }

    private static void noFreeTicks() {
        sentence(0, "2 the free ticks, 0 to 1000 (0)");
        due("none is free", new ClockedGame().pass(1), 999);
        ClockedGame x = made(g -> g.set(2, 1000));
        due("a thousand are free", x.pass(1000), 1000);
        due("one more is not", x.pass(1), 999);
    }

    private static void clockBelow0() {
        sentence(0, "the clock shows less by them (it can show less than 0)");
        ClockedGame x = withClaimedFlags();
        due("0", x.pass(10), 0);
        due("less than 0", x.pass(1), -1);
        due("much less", x.pass(9999), -10000);
        due("used", x.player(0, 1), 10010);
        due("state", x.game(0), 0);
    }

    private static void incrementEdges() {
        sentence(0, "With a move, the clock of the player who has moved shows more by the increment");
        for (int increment : new int[] {0, 1000}) {
            ClockedGame x = made(g -> { g.set(1, increment); moves(g, "a2a3"); });
            due("the one who moved", x.player(0, 0), 1000 + increment);
            due("added", x.player(0, 3), increment);
            due("the other one", x.player(1, 0), 1000);
        }
    }

    private static void noPeriod() {
        sentence(0, "if the period is not 0");
        ClockedGame x = made(g -> { g.set(4, 10000); moves(g, "a2a3 a5a4 b2b3 b5b4"); });
        due("no bonus", x.player(0, 0), 1020);
        due("no bonus", x.player(1, 0), 1020);
    }

    private static void periodOfOne() {
        sentence(0, "3 the period, 0 to 50 (0: none)");
        ClockedGame x = made(g -> { g.set(3, 1); g.set(4, 100); moves(g, "a2a3 a5a4 b2b3"); });
        due("a bonus with each move", x.player(0, 0), 1220);
        due("a bonus with each move", x.player(1, 0), 1110);
        x = made(g -> { g.set(3, 50); g.set(4, 100); moves(g, LAST_PIECE_OF_1); });
        due("too few moves for fifty", x.player(0, 3), 150);
    }

    private static void multiplesOfThePeriod() {
        sentence(0, "the number of moves that this player has made and not taken back, this one included, is a multiple of it");
        ClockedGame x = made(g -> { g.set(3, 3); g.set(4, 100); g.set(6, 20); });
        int[] after = {1010, 1020, 1130, 1140, 1150, 1260, 1270};
        String[] own = {"a2a3", "b2b3", "c2c3", "d2d3", "e2e3", "f2f3", "a1a2"};
        String[] others = {"a5a4", "b5b4", "c5c4", "d5d4", "e5e4", "f5f4", "a6a5"};
        for (int i = 0; i < own.length; i++) {
            moves(x, own[i]);
            due("move " + (i + 1), x.player(0, 0), after[i]);
            moves(x, others[i]);
            due("the other one's move " + (i + 1), x.player(1, 0), after[i]);
        }
        x.ask(0);
        x.answer(true);
        x.ask(0);
        x.answer(true);
        due("the sixth move is taken back", x.player(0, 0), 1150);
        moves(x, "f2f3");
        due("and made again", x.player(0, 0), 1260);
    }

    private static void turnBehindTheEnd() {
        sentence(0, "Behind a move it is the turn of the other player (also if the game ends by it)");
        due("by the last row", game(NEAR_LAST_ROWS + " b5a6").game(2), 1);
        due("by the last row", game(NEAR_LAST_ROWS + " a1a2 e2f1").game(2), 0);
        due("by the last piece", game(LAST_PIECE_OF_1 + " c4b5").game(2), 1);
        due("ticks", made(x -> { moves(x, NEAR_LAST_ROWS); x.pass(3); moves(x, "b5a6"); }).game(5), 0);
    }

    private static void flagAtMinus1() {
        sentence(0, "a player loses as soon as the clock of this player shows less than 0 while the game runs");
        ClockedGame x = new ClockedGame();
        due("0", x.pass(1000), 0);
        due("runs", x.game(0), 0);
        due("-1", x.pass(1), -1);
        due("state", x.game(0), 3);
        due("reason", x.game(1), 4);
        x = made(g -> { moves(g, "a2a3"); g.pass(1001); });
        due("player 1 loses", x.game(0), 2);
    }

    private static void flagNotWhileOver() {
        sentence(0, "while the game runs");
        ClockedGame x = made(g -> { claimFlags(g); g.pass(11); g.resign(1); });
        due("set behind the end", x.set(5, 0), 1);
        due("state", x.game(0), 2);
        due("reason", x.game(1), 5);
        due("entries", x.game(4), 1);
    }

    private static void flagBehindSet() {
        sentence(0, "(also behind set() or a taking back");
        ClockedGame x = made(g -> { claimFlags(g); g.pass(10); g.set(5, 0); });
        due("the clock shows 0", x.game(0), 0);
        x = made(g -> { claimFlags(g); g.pass(11); g.set(5, 0); });
        due("the clock shows -1", x.game(0), 3);
        due("reason", x.game(1), 4);
        record(x, "#4");
        x = made(g -> { claimFlags(g); g.pass(21); moves(g, "a2a3"); g.set(5, 0); });
        due("the one not on turn", x.game(0), 3);
        x = made(g -> { claimFlags(g); g.pass(20); moves(g, "a2a3"); g.set(5, 0); });
        due("the one not on turn shows 0", x.game(0), 0);
    }

    private static void flagBehindTakingBack() {
        sentence(0, "or a taking back");
        Recipe late = x -> { x.set(0, 10); x.begin(); moves(x, "a2a3"); x.pass(10); moves(x, "a5a4 b2b3"); };
        ClockedGame x = made(g -> { late.make(g); g.ask(1); g.answer(true); });
        due("clock of player 1", x.player(1, 0), 0);
        due("state with 0", x.game(0), 0);
        x = made(g -> { late.make(g); g.pass(1); g.ask(1); g.answer(true); });
        due("clock of player 1", x.player(1, 0), -1);
        due("state with -1", x.game(0), 2);
        due("reason", x.game(1), 4);
    }

    private static void bothFlags() {
        sentence(0, "if both clocks do, it is the player whose turn it is");
        Recipe both = g -> { claimFlags(g); g.pass(21); moves(g, "a2a3"); g.pass(11); };
        ClockedGame x = made(both);
        due("clock of player 0", x.player(0, 0), -1);
        due("clock of player 1", x.player(1, 0), -1);
        x.set(5, 0);
        due("player 1 loses", x.game(0), 2);
        x = made(both);
        moves(x, "a5a4");
        x.pass(1);
        x.set(5, 0);
        due("player 0 alone loses", x.game(0), 3);
        x = made(g -> { both.make(g); g.pass(10); moves(g, "a5a4"); g.set(5, 0); });
        due("player 0 loses", x.game(0), 3);
    }

    private static void claimedWhileBelow0() {
        sentence(0, "the other player can claim then, as long as it shows less than 0");
        ClockedGame x = made(g -> { claimFlags(g); g.pass(10); });
        due("0", x.claim(1), STATE);
        x.pass(1);
        due("-1", x.claim(1), 3);
        x = made(g -> { claimFlags(g); g.pass(21); moves(g, "a2a3"); });
        due("still -1 behind the move", x.claim(1), 3);
        x = made(g -> { claimFlags(g); g.pass(20); moves(g, "a2a3"); });
        due("0 again behind the move", x.claim(1), STATE);
    }

    // ---- the game

    private static void eachState() {
        sentence(0, "It is in one of these states: 0 it runs; 1 it is broken off; 2 player 0 has won; 3 player 1 has won; 4 a draw");
        Recipe[] states = {x -> { }, ClockedGameEdgesTest::brokenOff, x -> x.resign(1), x -> x.resign(0), x -> { x.offer(0); x.answer(true); }};
        for (int i = 0; i < states.length; i++) due("state", made(states[i]).game(0), i);
    }

    private static void runsAtFirst() {
        sentence(0, "THE GAME runs at first");
        due("state", new ClockedGame().game(0), 0);
        due("reason", new ClockedGame().game(1), 0);
    }

    private static void askWhileItRuns() {
        sentence(0, "A player can ask for it if the game runs");
        refused("ask(0)", x -> { moves(x, "a2a3 a5a4"); x.seal(7, 13); }, x -> x.ask(0), STATE);
        refused("ask(1)", x -> { moves(x, "a2a3 a5a4"); x.resign(0); }, x -> x.ask(1), STATE);
    }

    private static void askWithoutQuestion() {
        sentence(0, "no question is open");
        refused("ask(0) behind an offer", x -> { moves(x, "a2a3 a5a4"); x.offer(1); }, x -> x.ask(0), STATE);
        refused("ask(1) behind an ask", x -> { moves(x, "a2a3 a5a4"); x.ask(0); }, x -> x.ask(1), STATE);
        refused("ask(0) again", x -> { moves(x, "a2a3 a5a4"); x.ask(0); }, x -> x.ask(0), STATE);
        due("behind a refusal", made(x -> { moves(x, "a2a3"); x.ask(0); x.answer(false); }).ask(0), 1);
    }

    private static void askWithAMove() {
        sentence(0, "this player has made a move that is not taken back");
        refused("ask(0) at first", x -> x.pass(1), x -> x.ask(0), STATE);
        refused("ask(1) behind one move", x -> moves(x, "a2a3"), x -> x.ask(1), STATE);
        refused("ask(0) behind a taking back", x -> { moves(x, "a2a3"); x.ask(0); x.answer(true); }, x -> x.ask(0), STATE);
        refused("ask(1) behind a taking back", x -> { moves(x, "a2a3 a5a4"); x.ask(1); x.answer(true); }, x -> x.ask(1), STATE);
        due("player 0 still has one", made(x -> { moves(x, "a2a3 a5a4"); x.ask(1); x.answer(true); }).ask(0), 1);
    }

    private static void askFewerThanTheSetting() {
        sentence(0, "has had fewer moves taken back by asking than the setting says");
        refused("ask(0) with none allowed", x -> { x.set(6, 0); moves(x, "a2a3"); }, x -> x.ask(0), STATE);
        Recipe one = x -> { x.set(6, 1); moves(x, "a2a3"); x.ask(0); x.answer(true); moves(x, "a2a3"); };
        refused("ask(0) with one allowed", one, x -> x.ask(0), STATE);
        due("two allowed", made(x -> { one.make(x); x.set(6, 2); }).ask(0), 1);
        due("the other one's asking counts alone", made(x -> { one.make(x); moves(x, "a5a4"); }).ask(1), 1);
        due("refusals do not count", made(x -> { x.set(6, 1); moves(x, "a2a3"); x.ask(0); x.answer(false); }).ask(0), 1);
        due("begin() forgets", made(x -> { one.make(x); x.begin(); moves(x, "a2a3"); }).ask(0), 1);
    }

    private static void askTwentyTimes() {
        sentence(0, "6 the most moves that a player can take back, 0 to 20 (2)");
        ClockedGame x = made(g -> g.set(6, 20));
        for (int i = 0; i < 20; i++) {
            moves(x, "a2a3");
            due("ask " + i, x.ask(0), 1);
            due("answer " + i, x.answer(true), 2);
        }
        moves(x, "a2a3");
        due("twenty were taken back", x.player(0, 5), 20);
        due("ask again", x.ask(0), STATE);
    }

    private static void askOneMoreThanTheSetting() {
        sentence(0, "(moves of both players count; so by the last time there can be one more than it says)");
        ClockedGame x = made(g -> { moves(g, "a2a3"); g.ask(0); g.answer(true); moves(g, "a2a3 a5a4"); });
        due("one of two", x.player(0, 5), 1);
        due("ask", x.ask(0), 2);
        x.answer(true);
        due("three of two", x.player(0, 5), 3);
        due("of the other one", x.player(1, 5), 0);
        moves(x, "a2a3");
        due("ask again", x.ask(0), STATE);
    }

    private static void oneMoveBack() {
        sentence(0, "the moves are taken back from the last one on, up to and with the last move of the asking player (one");
        ClockedGame x = made(g -> { moves(g, "a2b3 a5a4 b3a4"); g.ask(0); });
        due("answer", x.answer(true), 2);
        due("moves", x.game(3), 2);
        due("turn", x.game(2), 0);
        due("from", x.at(cell("b3")), 0);
        due("the piece that was taken", x.at(cell("a4")), 1);
        due("pieces", x.player(1, 6), 12);
    }

    private static void twoMovesBack() {
        sentence(0, "or two moves); it is the turn of the asking player then");
        ClockedGame x = made(g -> { moves(g, "a2b3 a5a4 b3a4 b5a4"); g.ask(0); });
        due("answer", x.answer(true), 2);
        due("moves", x.game(3), 2);
        due("turn", x.game(2), 0);
        due("piece of player 0", x.at(cell("b3")), 0);
        due("piece of player 1", x.at(cell("a4")), 1);
        due("piece of player 1", x.at(cell("b5")), 1);
        due("pieces", x.player(0, 6) + x.player(1, 6), 24);
    }

    private static void allMovesBack() {
        sentence(0, "up to and with the last move of the asking player");
        ClockedGame x = made(g -> { g.set(6, 20); moves(g, "a2b3 a5a4 b3a4 b5a4"); });
        for (int i = 0; i < 2; i++) {
            x.ask(0);
            x.answer(true);
        }
        due("moves", x.game(3), 0);
        for (int i = 0; i < 36; i++) due("at " + i, x.at(i), new ClockedGame().at(i));
        due("player 0 cannot ask", x.ask(0), STATE);
        due("player 1 cannot ask", x.ask(1), STATE);
    }

    private static void addedIsTakenAway() {
        sentence(0, "What the clocks showed more by these moves is taken away again");
        ClockedGame x = made(g -> { g.set(1, 7); g.set(3, 1); g.set(4, 100); moves(g, "a2a3 a5a4"); });
        x.set(1, 1000);
        x.set(4, 0);
        x.set(3, 0);
        x.ask(0);
        x.answer(true);
        due("clock of player 0", x.player(0, 0), 1000);
        due("clock of player 1", x.player(1, 0), 1000);
        due("added", x.player(0, 3) + x.player(1, 3), 0);
    }

    private static void usedStaysUsed() {
        sentence(0, "ticks that were used stay used");
        ClockedGame x = made(g -> { g.set(2, 2); g.pass(5); moves(g, "a2a3"); g.pass(6); moves(g, "a5a4"); g.pass(4); g.ask(0); });
        x.answer(true);
        int[] first = {1000 - 5, 5, 9};
        int[] second = {1000 - 4, 4, 6};
        for (int i = 0; i < 3; i++) due("player 0 " + i, x.player(0, i), first[i]);
        for (int i = 0; i < 3; i++) due("player 1 " + i, x.player(1, i), second[i]);
    }

    private static void freeBehindTakingBack() {
        sentence(0, "a new turn begins with all its free ticks");
        ClockedGame x = made(g -> { g.set(2, 3); g.pass(3); moves(g, "a2a3"); g.pass(2); g.ask(0); g.answer(true); });
        due("ticks of the turn", x.game(5), 0);
        due("three are free", x.pass(3), 1000);
        due("the fourth is not", x.pass(1), 999);
        moves(x, "a2a3");
        record(x, "3a2a3 ? <1 4a2a3");
    }

    private static void questionClosedByTakingBack() {
        sentence(0, "The question is closed then");
        ClockedGame x = made(g -> { moves(g, "a2a3"); g.ask(0); g.answer(true); });
        due("question", x.game(6), 0);
        due("asker", x.game(7), NONE);
        due("answer", x.answer(true), STATE);
    }

    private static void flagRuleBehindTakingBack() {
        sentence(0, "If a clock shows less than 0 by this, the rule of flags holds");
        Recipe back = g -> { g.set(0, 10); g.begin(); moves(g, "a2a3 a5a4"); g.pass(15); moves(g, "b2b3"); g.ask(0); };
        ClockedGame x = made(g -> { back.make(g); g.answer(true); });
        due("clock", x.player(0, 0), 5);
        due("no flag", x.game(0), 0);
        x = made(g -> { back.make(g); g.answer(false); moves(g, "b5b4"); g.pass(12); g.ask(0); g.answer(true); });
        due("clock", x.player(0, 0), -7);
        due("flag", x.game(0), 3);
        record(x, "0a2a3 0a5a4 15b2b3 ? ! 0b5b4 ? <2 #4");
        x = made(g -> { back.make(g); g.set(5, 1); g.answer(false); moves(g, "b5b4"); g.pass(12); g.ask(0); g.answer(true); });
        due("claimed flags", x.game(0), 0);
        due("claim", x.claim(1), 3);
    }

    private static void offerWhileItRuns() {
        sentence(0, "A DRAW can be offered by a player if the game runs");
        refused("offer(0)", ClockedGameEdgesTest::brokenOff, x -> x.offer(0), STATE);
        refused("offer(1)", ClockedGameEdgesTest::over, x -> x.offer(1), STATE);
    }

    private static void offerWithoutQuestion() {
        sentence(0, "and no question is open");
        refused("offer(1)", x -> x.offer(0), x -> x.offer(1), STATE);
        refused("offer(0)", x -> x.offer(0), x -> x.offer(0), STATE);
        refused("offer(1) behind ask(0)", x -> { moves(x, "a2a3"); x.ask(0); }, x -> x.offer(1), STATE);
        due("behind a refusal", made(x -> { x.offer(0); x.answer(false); }).offer(0), 1);
    }

    private static void questionStaysOpen() {
        sentence(0, "A question (about taking back, or a draw) is open until");
        ClockedGame x = made(g -> { moves(g, "a2a3"); g.offer(0); g.pass(9); g.set(1, 4); g.move(0, 0); g.ask(1); });
        due("question", x.game(6), 2);
        due("asker", x.game(7), 0);
        x = made(g -> { moves(g, "a2a3"); g.ask(0); playText(g, "3 0 4"); });
        due("question", x.game(6), 1);
        due("answer", x.answer(true), 2);
    }

    private static void questionClosed() {
        sentence(0, "it is answered by the other player, or a move is made or sealed, or the game ends (without an entry of its own then)");
        Recipe open = x -> { x.set(5, 1); moves(x, "a2a3"); x.offer(0); };
        Recipe[] closing = {x -> x.answer(false), x -> x.answer(true), x -> moves(x, "a5a4"), x -> x.seal(0, 0), x -> x.resign(1),
            x -> { x.pass(1001); x.claim(0); }, x -> { x.pass(1001); x.set(5, 0); }, x -> { x.set(5, 0); x.pass(1001); },
            x -> playText(x, "a5a4"), x -> x.begin()};
        String[] records = {" !", " #6", " 0a5a4", "", " #5", " #4", " #4", " #4", " 0a5a4", null};
        for (int i = 0; i < closing.length; i++) {
            ClockedGame x = made(open);
            closing[i].make(x);
            due("question " + i, x.game(6), 0);
            due("asker " + i, x.game(7), NONE);
            record(x, records[i] == null ? "" : "0a2a3 =" + records[i]);
            due("answer " + i, x.answer(true), STATE);
        }
    }

    private static void sealAnyTwoCells() {
        sentence(0, "any two cells, possible or not, also the same one twice");
        for (int[] cells : new int[][] {{6, 12}, {0, 0}, {35, 35}, {0, 35}, {35, 0}, {24, 18}, {14, 20}}) {
            due("seal " + cells[0] + " " + cells[1], new ClockedGame().seal(cells[0], cells[1]), 0);
        }
    }

    private static void sealedGame() {
        sentence(0, "The game is broken off then; no ticks go by");
        ClockedGame x = made(g -> { g.pass(7); brokenOff(g); });
        due("state", x.game(0), 1);
        due("pass", x.pass(1), STATE);
        due("ticks", x.game(5), 7);
        due("clock", x.player(0, 0), 993);
        due("piece", x.at(cell("a2")), 0);
        record(x, "");
    }

    private static void sealedMovePossible() {
        sentence(0, "When it is resumed, the move is made as any other one if it is possible, the ticks being those that had gone by in the turn");
        ClockedGame x = made(g -> { g.set(3, 1); g.set(4, 100); g.pass(7); brokenOff(g); });
        x.set(1, 5);
        due("resume", x.resume(), 0);
        due("clock", x.player(0, 0), 993 + 105);
        due("moves", x.game(3), 1);
        due("ticks", x.game(5), 0);
        record(x, "*7a2a3");
        x = made(g -> { moves(g, NEAR_LAST_ROWS); g.seal(cell("b5"), cell("a6")); });
        due("wins", x.resume(), 2);
        due("reason", x.game(1), 1);
        x = made(g -> { moves(g, LAST_PIECE_OF_1); g.seal(cell("c4"), cell("b5")); });
        due("wins", x.resume(), 2);
        due("reason", x.game(1), 2);
    }

    private static void sealedMoveNotPossible() {
        sentence(0, "otherwise this player loses");
        int[][] cells = {{6, 18}, {0, 6}, {0, 0}, {24, 18}, {14, 20}};
        for (int[] pair : cells) {
            ClockedGame x = made(g -> g.seal(pair[0], pair[1]));
            due("resume", x.resume(), 3);
            due("reason", x.game(1), 7);
            due("turn", x.game(2), 0);
            due("moves", x.game(3), 0);
        }
        due("player 1", made(g -> { moves(g, "a2a3"); g.seal(6, 12); }).resume(), 2);
    }

    private static void flagsBehindResume() {
        sentence(0, "(With flags that fall by themselves, the clocks are looked at behind that.)");
        Recipe late = g -> { claimFlags(g); g.pass(20); brokenOff(g); g.set(5, 0); };
        due("the increment comes first", made(late).resume(), 0);
        Recipe later = g -> { claimFlags(g); g.pass(21); brokenOff(g); g.set(5, 0); };
        ClockedGame x = made(later);
        due("-1 behind the move", x.resume(), 3);
        record(x, "*21a2a3 #4");
        x = made(g -> { claimFlags(g); g.pass(21); brokenOff(g); });
        due("claimed flags", x.resume(), 0);
        x = made(g -> { claimFlags(g); g.pass(21); g.seal(0, 0); g.set(5, 0); });
        due("a sealed move that is not possible", x.resume(), 3);
        due("reason", x.game(1), 7);
        record(x, "*21a1a1 #7");
        x = made(g -> { claimFlags(g); g.pass(40); moves(g, "a2a3"); g.pass(40); g.seal(cell("a5"), cell("a4")); g.set(5, 0); });
        due("both clocks: the one on turn loses", x.resume(), 3);
    }

    // ---- the record

    private static void ticksAreWritten() {
        sentence(0, "a move: the ticks that went by in this turn, all of them, as a number without leading zeros");
        int[] ticks = {0, 1, 9, 10, 99, 100, 101, 999, 1000, 1010, 9999};
        for (int n : ticks) {
            ClockedGame x = made(g -> { g.set(5, 1); g.set(2, 50); if (n > 0) g.pass(n); moves(g, "a2a3"); });
            record(x, n + "a2a3");
            due("written", x.written(), String.valueOf(n).length() + 4);
        }
        record(made(g -> { g.set(5, 1); g.pass(9999); g.pass(1); moves(g, "a2a3"); }), "10000a2a3");
        record(made(g -> { g.set(5, 1); for (int i = 0; i < 101; i++) g.pass(9999); moves(g, "a2a3"); }), "1009899a2a3");
        record(made(g -> playText(g, "007 a2a3")), "7a2a3");
    }

    private static void takingIsWritten() {
        sentence(0, "then column and row of both cells (\"12a2b3\"), and \"x\" if a piece was taken");
        record(made(g -> { g.pass(12); moves(g, "a2b3 a5a4 b3a4 b5a4"); }), "12a2b3 0a5a4 0b3a4x 0b5a4x");
    }

    private static void takenBackIsWritten() {
        sentence(0, "moves taken back by agreement: \"<\" and their number");
        record(made(g -> { moves(g, "a2a3"); g.ask(0); g.answer(true); }), "0a2a3 ? <1");
        record(made(g -> { moves(g, "a2a3 a5a4"); g.ask(0); g.answer(true); }), "0a2a3 0a5a4 ? <2");
    }

    private static void sealedIsWritten() {
        sentence(0, "a sealed move when it is resumed: like a move, with \"*\" ahead (also if it is not possible; without \"x\" then)");
        record(made(ClockedGameEdgesTest::brokenOff), "");
        record(made(g -> { moves(g, "a2b3 a5a4"); g.seal(cell("b3"), cell("a4")); g.resume(); }), "0a2b3 0a5a4 *0b3a4x");
        record(made(g -> { g.pass(30); g.seal(cell("a1"), cell("a5")); g.resume(); }), "*30a1a5 #7");
        record(made(g -> { moves(g, "a2a3 a5a4"); g.seal(cell("a3"), cell("a4")); g.resume(); }), "0a2a3 0a5a4 *0a3a4 #7");
    }

    private static void endIsWritten() {
        sentence(0, "the end: \"#\" and the digit of the reason");
        String[] ends = {"1", "2", "4", "4", "5", "6", "7"};
        Recipe[] recipes = {x -> moves(x, NEAR_LAST_ROWS + " b5a6"), x -> moves(x, LAST_PIECE_OF_0 + " c3b2"), x -> x.pass(1001),
            x -> { claimFlags(x); x.pass(11); x.claim(1); }, x -> x.resign(0), x -> { x.offer(0); x.answer(true); },
            x -> { x.seal(0, 0); x.resume(); }};
        for (int i = 0; i < ends.length; i++) {
            ClockedGame x = made(recipes[i]);
            String text = recordOf(x);
            due("the record ends with #" + ends[i], text.endsWith("#" + ends[i]) ? 1 : 0, 1);
            due("reason", x.game(1), ends[i].charAt(0) - '0');
            due("ends", text.chars().filter(c -> c == '#').count(), 1);
        }
    }

    private static void blanks() {
        sentence(0, "Between entries there is a blank");
        record(made(x -> { }), "");
        record(made(x -> x.offer(0)), "=");
        record(made(x -> x.resign(0)), "#5");
        record(made(x -> { x.offer(0); x.answer(false); }), "= !");
    }

    private static void takenBackStays() {
        sentence(0, "Entries for moves that are taken back stay");
        ClockedGame x = made(g -> { moves(g, "a2a3"); g.ask(0); g.answer(true); moves(g, "b2b3"); });
        record(x, "0a2a3 ? <1 0b2b3");
        due("entries", x.game(4), 4);
        due("moves", x.game(3), 1);
    }

    private static void agreementIsNotWritten() {
        sentence(0, "An agreement to a draw is only written by its end");
        ClockedGame x = made(g -> { g.offer(1); g.answer(true); });
        record(x, "= #6");
        due("entries", x.game(4), 2);
    }

    private static void entries200() {
        sentence(0, "THE RECORD is a row of entries, at most 200");
        ClockedGame x = filled(198);
        due("the 199th", x.move(cell("a2"), cell("a3")), 0);
        due("the 200th", x.move(cell("a5"), cell("a4")), 0);
        due("entries", x.game(4), 200);
        due("the 201st", x.move(cell("b2"), cell("b3")), FULL);
        due("entries", x.game(4), 200);
        due("written", x.written(), 99 * 4 + 11);
    }

    private static void noEntryWhenFull() {
        sentence(0, "When there are 200 entries, no calls that would write one are possible");
        refused("move", ClockedGameEdgesTest::fullRecord, x -> x.move(6, 12), FULL);
        refused("seal", ClockedGameEdgesTest::fullRecord, x -> x.seal(6, 12), FULL);
        refused("offer", ClockedGameEdgesTest::fullRecord, x -> x.offer(0), FULL);
        refused("ask", x -> { fill(x, 198); moves(x, "a2a3 a5a4"); }, x -> x.ask(0), FULL);
        refused("answer(false) to an offer", ClockedGameEdgesTest::fullWithOffer, x -> x.answer(false), FULL);
        refused("answer(false) to an asking", ClockedGameEdgesTest::fullWithAsking, x -> x.answer(false), FULL);
        refused("answer(true) to an asking", ClockedGameEdgesTest::fullWithAsking, x -> x.answer(true), FULL);
        refused("play", x -> { fullRecord(x); typeAll(x, "4 a2a3"); }, x -> x.play(), -1001);
    }

    private static void othersWhenFull() {
        sentence(0, "no calls that would write one are possible");
        ClockedGame x = filled(200);
        due("pass", x.pass(3), 997);
        due("set", x.set(1, 5), 10);
        due("play", playText(x, "2 0"), 2);
        due("begin", x.begin(), 200);
        due("move", x.move(6, 12), 0);
    }

    private static void endWhenFull() {
        sentence(0, "but the end is always written");
        Recipe[] ends = {x -> { fullRecord(x); x.resign(0); }, x -> { fullRecord(x); x.pass(1001); x.claim(1); },
            x -> { fullRecord(x); x.pass(1001); x.set(5, 0); }, x -> { fullRecord(x); x.set(5, 0); x.pass(1001); },
            x -> { fullRecord(x); x.set(5, 0); playText(x, "1001"); }, x -> { fullWithOffer(x); x.answer(true); }};
        String digits = "544446";
        for (int i = 0; i < ends.length; i++) {
            ClockedGame x = made(ends[i]);
            due("entries " + i, x.game(4), 201);
            due("reason " + i, x.game(1), digits.charAt(i) - '0');
            due("last sign " + i, x.sign(x.written() - 1), digits.charAt(i));
            due("the one before " + i, x.sign(x.written() - 2), '#');
            due("the blank " + i, x.sign(x.written() - 3), ' ');
        }
    }

    private static void endBehindTheLastEntry() {
        sentence(0, "the end is always written");
        Recipe[] ends = {x -> { fill(x, 192); moves(x, NEAR_LAST_ROWS + " a1a2"); x.resign(0); },
            x -> { fill(x, 190); moves(x, NEAR_LAST_ROWS + " a1a2 a5a4 a2a3 e2f1"); },
            x -> { fill(x, 198); x.offer(0); x.seal(0, 0); x.resume(); },
            x -> { fill(x, 198); x.offer(0); x.pass(1011); x.seal(6, 12); x.set(5, 0); x.resume(); }};
        int[] entries = {200, 201, 201, 201};
        for (int i = 0; i < ends.length; i++) {
            ClockedGame x = made(ends[i]);
            due("entries " + i, x.game(4), entries[i]);
            due("is over " + i, x.game(0) > 1 ? 1 : 0, 1);
            due("end " + i, x.sign(x.written() - 2), '#');
        }
    }

    // ---- texts

    private static void bufferAtFirst() {
        sentence(0, "There is a buffer of at most 100 characters with codes from 32 to 126, initially empty");
        due("clear", new ClockedGame().clear(), 0);
        due("type the least", new ClockedGame().type(32), 1);
        due("type the greatest", new ClockedGame().type(126), 1);
        ClockedGame x = new ClockedGame();
        for (int i = 1; i <= 100; i++) due("type", x.type(' '), i);
        due("the 101st", x.type(' '), FULL);
        due("clear", x.clear(), 100);
    }

    private static void digits() {
        sentence(0, "a number of one to four digits, also with zeros in front (so many ticks go by, 0 to 9999)");
        String[] numbers = {"0", "9", "00", "10", "099", "0000", "0001", "9999"};
        int[] ticks = {0, 9, 0, 10, 99, 0, 1, 9999};
        for (int i = 0; i < numbers.length; i++) {
            ClockedGame x = withClaimedFlags();
            due("play " + numbers[i], playText(x, numbers[i]), 1);
            due("ticks of " + numbers[i], x.game(5), ticks[i]);
        }
    }

    private static void fifthDigit() {
        sentence(0, "(a fifth digit cannot)");
        for (String text : new String[] {"00000", "12345", "99990", "000000", "00001 a2a3"}) {
            due("play " + text, playText(new ClockedGame(), text), -104);
        }
        due("in the second part", playText(new ClockedGame(), "1 12345"), -106);
    }

    private static void signsOfAMove() {
        sentence(0, "or a letter from \"a\" to \"f\", a digit from 1 to 6, a letter, and a digit (a move)");
        for (int place = 0; place < 4; place++) {
            boolean column = place % 2 == 0;
            for (char sign = 32; sign < 127; sign++) {
                char[] text = "a2a3".toCharArray();
                text[place] = sign;
                boolean stands = column ? sign >= 'a' && sign <= 'f' : sign >= '1' && sign <= '6';
                boolean number = place == 0 && sign >= '0' && sign <= '9';
                int answer = playText(new ClockedGame(), new String(text));
                due("faults of " + new String(text), answer == -100 - place ? 1 : 0, stands || number ? 0 : 1);
                if (number) due("play " + new String(text), answer, -102);
            }
        }
    }

    private static void cellsOfAMove() {
        sentence(0, "a letter from \"a\" to \"f\", a digit from 1 to 6");
        record(made(x -> playText(x, "a2a3 f5f4 f2f3 a5a4 a1a2 f6f5")), "0a2a3 0f5f4 0f2f3 0a5a4 0a1a2 0f6f5");
        due("a1a6", playText(new ClockedGame(), "a1a6"), -1000);
        due("f6f1", playText(new ClockedGame(), "f6f1"), -1000);
    }

    private static void oneOrMoreParts() {
        sentence(0, "A text consists of one or more parts with a blank between them");
        due("none", playText(new ClockedGame(), ""), -100);
        due("one", playText(new ClockedGame(), "5"), 1);
        due("two", playText(new ClockedGame(), "5 a2a3"), 2);
        due("a blank alone", playText(new ClockedGame(), " "), -100);
        due("a blank ahead", playText(new ClockedGame(), " 5"), -100);
        due("two blanks", playText(new ClockedGame(), "5  6"), -102);
        due("no blank behind a number", playText(new ClockedGame(), "5a2a3"), -101);
        due("no blank behind a move", playText(new ClockedGame(), "a2a35"), -104);
        due("no blank between moves", playText(new ClockedGame(), "a2a3a5a4"), -104);
        StringBuilder most = new StringBuilder("0");
        for (int i = 1; i < 50; i++) most.append(" 0");
        due("fifty", playText(new ClockedGame(), most.toString()), 50);
        due("fifty and a blank", playText(new ClockedGame(), most + " "), -200);
    }

    private static void endsTooEarly() {
        sentence(0, "or its length if it ends too early");
        String[] early = {"", "a", "a2", "a2a", "5 ", "a2a3 ", "5 b", "5 b2", "5 b2b", "a2a3 0000 "};
        for (String text : early) due("play '" + text + "'", playText(new ClockedGame(), text), -100 - text.length());
        String parts = "0 ".repeat(50);
        due("a full buffer that ends too early", playText(new ClockedGame(), parts), -200);
        due("a full buffer with a fault at its end", playText(new ClockedGame(), parts.substring(0, 99) + "x"), -199);
    }

    private static void firstErrorPlace() {
        sentence(0, "The error place of a text is the index of the first character that cannot stand at its place");
        due("play", playText(new ClockedGame(), "x a2 y"), -100);
        due("play", playText(new ClockedGame(), "a2a3 x y"), -105);
        due("play", playText(new ClockedGame(), "a2x y"), -102);
        due("before the parts that are not possible", playText(new ClockedGame(), "a2a6 a2a6 a7"), -111);
    }

    // ---- history

    private static void sixStates() {
        sentence(0, "A history of at most 6 states is kept");
        for (int acts = 0; acts <= 9; acts++) {
            ClockedGame x = new ClockedGame();
            for (int i = 0; i < acts; i++) x.pass(1);
            int kept = Math.min(acts, 6);
            for (int i = kept - 1; i >= 0; i--) due("undo of " + acts, x.undo(), i);
            due("undo of " + acts, x.undo(), NONE);
            due("the oldest state of " + acts, x.game(5), acts - kept);
        }
    }

    private static void withoutBuffer() {
        sentence(0, "(everything but the buffer)");
        ClockedGame x = new ClockedGame();
        x.type('7');
        x.pass(1);
        x.type('8');
        due("undo", x.undo(), 0);
        due("the buffer stays", x.clear(), 2);
        due("play", playText(x, "5"), 1);
        due("undo", x.undo(), 0);
        due("the text does not come again", x.clear(), 0);
    }

    private static void sealedMoveRestored() {
        sentence(0, "(everything but the buffer)");
        ClockedGame x = made(g -> { g.seal(cell("a2"), cell("b3")); g.begin(); g.seal(cell("f2"), cell("f3")); g.undo(); g.undo(); });
        due("resume", x.resume(), 0);
        record(x, "*0a2b3");
        x = made(g -> { g.seal(cell("a2"), cell("b3")); g.resign(0); g.begin(); g.seal(0, 0); g.resume(); });
        for (int i = 0; i < 4; i++) x.undo();
        due("resume", x.resume(), 0);
    }

    private static void movesRestored() {
        sentence(0, "(everything but the buffer)");
        Recipe first = x -> { x.set(1, 20); moves(x, "a2b3 a5a4 b3a4"); x.pass(3); };
        ClockedGame x = made(g -> { first.make(g); g.begin(); g.set(1, 5); moves(g, "f2e3 e5e4 d2d3"); });
        for (int i = 0; i < 5; i++) x.undo();
        due("all is told again", x.fingerprint(), made(first).fingerprint());
        x.ask(1);
        due("answer", x.answer(true), 2);
        due("taken back", x.fingerprint(), made(g -> { first.make(g); g.ask(1); g.answer(true); }).fingerprint());
        due("the piece that was taken", x.at(cell("a4")), NONE);
        due("the piece that took it", x.at(cell("b3")), 0);
    }

    private static void recordRestored() {
        sentence(0, "(everything but the buffer)");
        ClockedGame x = made(g -> { g.pass(123); moves(g, "a2a3"); g.begin(); g.resign(0); g.begin(); moves(g, "f2e3 e5e4"); });
        for (int i = 0; i < 3; i++) x.undo();
        record(x, "#5");
        x.undo();
        record(x, "");
        x.undo();
        record(x, "123a2a3");
    }

    private static void leavesAllAsItWas() {
        sentence(0, "adds the state before it, also if it leaves all as it was");
        Call[] acts = {x -> x.begin(), x -> x.set(0, 1000), x -> x.set(6, 2), x -> playText(x, "0"), x -> playText(x, "0 00 000 0000")};
        for (Call act : acts) {
            ClockedGame x = new ClockedGame();
            act.on(x);
            due("undo", x.undo(), 0);
            due("all is as it was", x.fingerprint(), new ClockedGame().fingerprint());
        }
    }

    private static void oldestDropped() {
        sentence(0, "if there are 6 already, the oldest one is dropped");
        ClockedGame x = new ClockedGame();
        for (int i = 1; i <= 7; i++) x.set(1, i);
        int want = 7;
        for (int i = 5; i >= 0; i--) {
            due("undo", x.undo(), i);
            due("setting", x.setting(1), --want);
        }
        due("undo", x.undo(), NONE);
        due("the second state is the oldest", x.setting(1), 1);
        for (int i = 0; i < 6; i++) x.pass(1);
        due("and six again", x.undo(), 5);
    }

    /** How many states the history has; it is empty then. */
    private static int statesOf(ClockedGame x) {
        int states = 0;
        while (states < 10 && x.undo() != NONE) states++;
        return states;
    }

    private static void addsOneState(String name, Recipe recipe, Call act) {
        int states = statesOf(made(recipe));
        ClockedGame x = made(recipe);
        act.on(x);
        due(name + " adds a state: undo", x.undo(), Math.min(5, states));
        due(name + " is undone", x.fingerprint(), made(recipe).fingerprint());
        due(name + " is made again", act.on(x), act.on(made(recipe)));
    }

    private static void eachActAddsOne() {
        sentence(0, "Each call described as an act that returns no error adds the state before it");
        addsOneState("begin", x -> moves(x, "a2a3"), x -> x.begin());
        addsOneState("set", x -> moves(x, "a2a3"), x -> x.set(2, 7));
        addsOneState("set that lets a flag fall", x -> { claimFlags(x); x.pass(11); }, x -> x.set(5, 0));
        addsOneState("pass", x -> moves(x, "a2a3"), x -> x.pass(7));
        addsOneState("pass that lets a flag fall", x -> moves(x, "a2a3"), x -> x.pass(1001));
        addsOneState("move", x -> moves(x, "a2b3 a5a4"), x -> x.move(cell("b3"), cell("a4")));
        addsOneState("move that ends the game", x -> moves(x, NEAR_LAST_ROWS), x -> x.move(cell("b5"), cell("c6")));
        addsOneState("seal", x -> { x.offer(0); x.pass(4); }, x -> x.seal(6, 12));
        addsOneState("resume", x -> { x.pass(4); x.seal(6, 12); }, x -> x.resume());
        addsOneState("resume with a move that is not possible", x -> x.seal(6, 6), x -> x.resume());
        addsOneState("ask", x -> moves(x, "a2a3"), x -> x.ask(0));
        addsOneState("offer", x -> moves(x, "a2a3"), x -> x.offer(1));
        addsOneState("answer that refuses", x -> x.offer(0), x -> x.answer(false));
        addsOneState("answer that agrees to a draw", x -> x.offer(0), x -> x.answer(true));
        addsOneState("answer that takes back", x -> { moves(x, "a2b3 a5a4 b3a4"); x.ask(1); }, x -> x.answer(true));
        addsOneState("resign", x -> x.offer(0), x -> x.resign(1));
        addsOneState("claim", x -> { claimFlags(x); x.pass(11); }, x -> x.claim(1));
    }

    private static void clockLikeAnError() {
        sentence(0, "that returns no error adds the state before it");
        int[] errors = {BAD, STATE, FULL, NONE};
        for (int error : errors) {
            ClockedGame x = made(g -> { g.set(5, 1); for (int i = 0; i < 20; i++) g.pass(9999); });
            due("a clock that shows the number of an error", x.pass(1000 - 20 * 9999 - error), error);
            due("player", x.player(0, 0), error);
            due("undo", x.undo(), 5);
            due("ticks", x.game(5), 20 * 9999);
            due("play", playText(x, (1000 - 20 * 9999 - error) + " a2a3"), 2);
        }
    }

    private static void othersAddNone() {
        sentence(0, "Each call described as an act");
        Call[] others = {x -> x.setting(0), x -> x.why(6, 12), x -> x.at(0), x -> x.game(0), x -> x.player(0, 0), x -> x.possible(0),
            x -> x.written(), x -> x.sign(0), x -> (long) x.mean(0), x -> x.type('0'), x -> x.clear(), x -> x.fingerprint()};
        for (int i = 0; i < others.length; i++) {
            ClockedGame x = new ClockedGame();
            others[i].on(x);
            due("undo behind call " + i, x.undo(), NONE);
        }
    }

    private static void undoIsNoAct() {
        sentence(0, "undo() removes the latest one and restores it");
        ClockedGame x = made(g -> { g.pass(1); g.pass(2); g.pass(4); });
        due("undo", x.undo(), 2);
        due("ticks", x.game(5), 3);
        due("undo", x.undo(), 1);
        due("ticks", x.game(5), 1);
        x.pass(8);
        due("undo", x.undo(), 1);
        due("ticks", x.game(5), 1);
        due("undo", x.undo(), 0);
        due("ticks", x.game(5), 0);
    }

    // ---- errors

    private static void errorsChangeNothing() {
        sentence(0, "A call that returns an error changes nothing");
        Recipe busy = x -> {
            x.set(2, 4);
            moves(x, "a2b3 a5a4 b3a4");
            x.pass(9);
            x.ask(0);
            typeAll(x, "7 a2a3");
        };
        refused("many calls", busy, x -> {
            int[] answers = {x.set(7, 1), x.set(0, 0), x.pass(0), x.pass(10000), x.move(-1, 0), x.move(0, 36), x.seal(36, 0), x.ask(2),
                x.offer(-1), x.resign(2), x.claim(2), x.type(31), x.type(127)};
            for (int answer : answers) if (answer != BAD) return answer;
            int[] later = {x.move(0, 0), x.resume(), x.ask(0), x.ask(1), x.offer(0), x.offer(1), x.claim(0), x.claim(1)};
            for (int answer : later) if (answer != STATE) return answer;
            return x.play();
        }, -1001);
    }

    private static void severalErrors() {
        sentence(0, "If several errors apply to a call, the one listed first is returned");
        Recipe fullAndOver = x -> { fullRecord(x); x.resign(0); };
        refused("pass(0) behind the end", ClockedGameEdgesTest::over, x -> x.pass(0), BAD);
        refused("move(36, 0) behind the end", ClockedGameEdgesTest::over, x -> x.move(36, 0), BAD);
        refused("move(0, 36) with a full record", ClockedGameEdgesTest::fullRecord, x -> x.move(0, 36), BAD);
        refused("move that is not possible, with a full record", ClockedGameEdgesTest::fullRecord, x -> x.move(6, 18), STATE);
        refused("move behind the end, with a full record", fullAndOver, x -> x.move(6, 12), STATE);
        refused("seal(36, 0) behind the end", ClockedGameEdgesTest::over, x -> x.seal(36, 0), BAD);
        refused("seal(0, 36) with a full record", ClockedGameEdgesTest::fullRecord, x -> x.seal(0, 36), BAD);
        refused("seal behind the end, with a full record", fullAndOver, x -> x.seal(6, 12), STATE);
        refused("ask(2) behind the end", ClockedGameEdgesTest::over, x -> x.ask(2), BAD);
        refused("ask(2) with a full record", ClockedGameEdgesTest::fullRecord, x -> x.ask(2), BAD);
        refused("ask(0) without a move, with a full record", ClockedGameEdgesTest::fullRecord, x -> x.ask(0), STATE);
        refused("offer(2) behind the end", ClockedGameEdgesTest::over, x -> x.offer(2), BAD);
        refused("offer(2) with a full record", ClockedGameEdgesTest::fullRecord, x -> x.offer(2), BAD);
        refused("offer(0) while a question is open, with a full record", ClockedGameEdgesTest::fullWithOffer, x -> x.offer(0), STATE);
        refused("answer(false) without a question, with a full record", ClockedGameEdgesTest::fullRecord, x -> x.answer(false), STATE);
        refused("answer(true) without a question, with a full record", ClockedGameEdgesTest::fullRecord, x -> x.answer(true), STATE);
        refused("resign(2) behind the end", ClockedGameEdgesTest::over, x -> x.resign(2), BAD);
        refused("claim(2) behind the end", ClockedGameEdgesTest::over, x -> x.claim(2), BAD);
        refused("type(31) into a full buffer", x -> typeAll(x, "0".repeat(100)), x -> x.type(31), BAD);
        refused("play of a faulty text that is not possible", x -> typeAll(x, "a2a6 x"), x -> x.play(), -105);
    }

    // ---- the promises

    private static void newObject() {
        sentence(1, "Creates a game that has just begun");
        due("fingerprint", new ClockedGame().fingerprint(), made(x -> x.begin()).fingerprint());
        due("undo", new ClockedGame().undo(), NONE);
        ClockedGame x = new ClockedGame();
        moves(x, "a2a3");
        due("an object of its own", new ClockedGame().at(cell("a2")), 0);
    }

    private static void beginsWithClocksSet() {
        sentence(2, "Begins a new game with the clocks that are set");
        ClockedGame x = made(g -> { for (int i = 0; i < 7; i++) g.set(i, GREATEST[i]); moves(g, "a2a3 a5a4"); g.pass(1005); g.ask(0); });
        x.begin();
        for (int i = 0; i < 7; i++) due("setting " + i, x.setting(i), GREATEST[i]);
        for (int player = 0; player < 2; player++) {
            int[] want = {100000, 0, 0, 0, 0, 0, 12};
            for (int i = 0; i < 7; i++) due("player " + player + " " + i, x.player(player, i), want[i]);
        }
        int[] want = {0, 0, 0, 0, 0, 0, 0, NONE, 16};
        for (int i = 0; i < 9; i++) due("game " + i, x.game(i), want[i]);
        record(x, "");
    }

    private static void beginInEachState() {
        sentence(2, "Begins a new game");
        Recipe[] states = {x -> { }, ClockedGameEdgesTest::brokenOff, ClockedGameEdgesTest::over, x -> x.resign(0),
            x -> { x.offer(0); x.answer(true); }, ClockedGameEdgesTest::fullRecord,
            x -> moves(x, LAST_PIECE_OF_0 + " c3b2"), x -> moves(x, LAST_PIECE_OF_1 + " c4b5"), x -> moves(x, "a2a3 f5f4 a1a2 f6f5")};
        for (int i = 0; i < states.length; i++) {
            ClockedGame x = made(states[i]);
            x.begin();
            x.set(5, 0);
            due("state " + i, x.fingerprint(), new ClockedGame().fingerprint());
            due("move " + i, x.move(6, 12), 0);
        }
    }

    private static void beginTellsEntries() {
        sentence(2, "Returns the number of entries that the record had");
        due("none", new ClockedGame().begin(), 0);
        due("one", made(x -> x.offer(0)).begin(), 1);
        due("the end", made(ClockedGameEdgesTest::over).begin(), 1);
        due("full", made(ClockedGameEdgesTest::fullRecord).begin(), 200);
        due("full with the end", made(x -> { fullRecord(x); x.resign(0); }).begin(), 201);
        due("again", made(x -> { x.offer(0); x.begin(); }).begin(), 0);
    }

    private static void setBad() {
        sentence(3, "BAD if an argument is not in its range");
        for (int i : new int[] {-1, 7, Integer.MIN_VALUE, Integer.MAX_VALUE}) refused("set " + i, g -> g.pass(1), g -> g.set(i, 1), BAD);
        for (int i = 0; i < 7; i++) {
            int setting = i;
            for (int value : new int[] {LEAST[i] - 1, GREATEST[i] + 1, Integer.MIN_VALUE, Integer.MAX_VALUE}) {
                refused("set " + i + " " + value, g -> g.pass(1), g -> g.set(setting, value), BAD);
            }
        }
    }

    private static void setPrevious() {
        sentence(3, "Returns the previous value");
        ClockedGame x = new ClockedGame();
        due("set", x.set(3, 50), 0);
        due("set the same", x.set(3, 50), 50);
        due("set another", x.set(3, 0), 50);
        due("the first set", x.setting(3), 0);
    }

    private static void setInEachState() {
        sentence(3, "(also in a game that is broken off; its flags are looked at when it is resumed)");
        ClockedGame x = made(g -> { claimFlags(g); g.pass(30); brokenOff(g); });
        due("set", x.set(5, 0), 1);
        due("still broken off", x.game(0), 1);
        record(x, "");
        due("resume", x.resume(), 3);
        due("behind the end", x.set(5, 1), 0);
        due("state", x.game(0), 3);
    }

    private static void setKeepsClocks() {
        sentence(3, "A game that has begun keeps its clocks as they show");
        ClockedGame x = made(g -> { g.pass(7); g.set(0, 100000); });
        due("clock", x.player(0, 0), 993);
        due("clock", x.player(1, 0), 1000);
        x.set(0, 1);
        due("clock", x.player(0, 0), 993);
        x.set(2, 1000);
        due("used ones stay used", x.player(0, 0), 993);
        due("state", x.game(0), 0);
    }

    private static void setCountsFromNowOn() {
        sentence(3, "increment, bonus, period, free ticks, flags and the most moves count from now on");
        ClockedGame x = game("a2a3 a5a4");
        x.set(1, 0);
        x.set(4, 300);
        x.set(3, 2);
        moves(x, "b2b3");
        due("bonus and increment", x.player(0, 0), 1310);
        x.set(2, 4);
        due("free ticks", x.pass(5), 1009);
        x.set(2, 0);
        due("no free ticks", x.pass(1), 1008);
        x.set(5, 1);
        due("flags", x.pass(1009), -1);
        due("state", x.game(0), 0);
        x.set(6, 0);
        due("the most moves", x.ask(0), STATE);
        x.set(6, 1);
        due("the most moves", x.ask(0), 1);
        x.set(6, 0);
        due("an open question stays", x.answer(true), 2);
        x.set(5, 0);
        due("flags", x.game(0), 2);
    }

    private static void settingBad() {
        sentence(4, "BAD if setting is not in its range");
        for (int i : new int[] {-1, 7, Integer.MIN_VALUE, Integer.MAX_VALUE}) due("setting " + i, new ClockedGame().setting(i), BAD);
        for (int i = 0; i < 7; i++) due("setting " + i, new ClockedGame().setting(i) == BAD ? 1 : 0, 0);
    }

    private static void passUntilMinus1() {
        sentence(5, "If the flag falls by itself, no more ticks go by than those with which the clock shows -1");
        for (int ticks : new int[] {1001, 1002, 9999}) {
            ClockedGame x = new ClockedGame();
            due("pass " + ticks, x.pass(ticks), -1);
            due("gone", x.player(0, 2), 1001);
            due("used", x.player(0, 1), 1001);
            due("ticks", x.game(5), 1001);
        }
        due("one less", new ClockedGame().pass(1000), 0);
        due("claimed", made(x -> x.set(5, 1)).pass(1002), -2);
    }

    private static void passFreeFirst() {
        sentence(5, "(free ones of this turn come first)");
        ClockedGame x = made(g -> g.set(2, 5));
        due("pass", x.pass(3), 1000);
        due("the most that still runs", x.pass(1002), 0);
        due("state", x.game(0), 0);
        x = made(g -> { g.set(2, 5); g.pass(3); });
        due("one more", x.pass(9999), -1);
        due("gone", x.player(0, 2), 1006);
        due("used", x.player(0, 1), 1001);
        due("ticks", x.game(5), 1006);
        x = made(g -> { g.set(2, 5); g.pass(6); });
        due("no free ones are left", x.pass(9999), -1);
        due("gone", x.player(0, 2), 1006);
    }

    private static void passBad() {
        sentence(5, "BAD if ticks is not in its range");
        for (int ticks : new int[] {0, -1, 10000, Integer.MIN_VALUE, Integer.MAX_VALUE}) {
            refused("pass " + ticks, g -> g.pass(1), g -> g.pass(ticks), BAD);
        }
        due("the least", new ClockedGame().pass(1), 999);
        due("the greatest", made(g -> g.set(5, 1)).pass(9999), -8999);
    }

    private static void passState() {
        sentence(5, "STATE if the game does not run");
        refused("pass while broken off", ClockedGameEdgesTest::brokenOff, x -> x.pass(1), STATE);
        refused("pass behind the end", ClockedGameEdgesTest::over, x -> x.pass(1), STATE);
        refused("pass behind a fallen flag", x -> x.pass(1001), x -> x.pass(1), STATE);
        refused("pass behind a draw", x -> { x.offer(0); x.answer(true); }, x -> x.pass(1), STATE);
    }

    private static void moveBad() {
        sentence(6, "BAD if there is no such cell");
        for (int i : NO_CELLS) {
            refused("move from " + i, x -> x.pass(1), x -> x.move(i, 12), BAD);
            refused("move to " + i, x -> x.pass(1), x -> x.move(6, i), BAD);
        }
    }

    private static void moveState() {
        sentence(6, "STATE if the game does not run, or why() is not 0");
        refused("move while broken off", ClockedGameEdgesTest::brokenOff, x -> x.move(6, 12), STATE);
        refused("move behind the end", ClockedGameEdgesTest::over, x -> x.move(6, 12), STATE);
        Recipe opened = x -> moves(x, "c2c3 c5c4");
        String[] faulty = {"e3e4", "c4c3", "a2a4", "c1d2", "c3c4"};
        for (int i = 0; i < 5; i++) {
            int from = cell(faulty[i].substring(0, 2));
            int to = cell(faulty[i].substring(2));
            due("why " + faulty[i], made(opened).why(from, to), i + 1);
            refused("move " + faulty[i], opened, x -> x.move(from, to), STATE);
        }
    }

    private static void moveFull() {
        sentence(6, "FULL if the record is full");
        refused("move", ClockedGameEdgesTest::fullRecord, x -> x.move(6, 12), FULL);
        due("with 199", made(x -> { fill(x, 198); x.offer(0); }).move(6, 12), 0);
    }

    private static void whyFirst() {
        sentence(7, "the first one that applies");
        ClockedGame x = game("c2c3 c5c4");
        due("no piece, and not ahead", why(x, "e3", "a1"), 1);
        due("no piece, and straight to a piece of the other player", why(x, "e4", "e5"), 1);
        due("the other player's, and not ahead", why(x, "a5", "f1"), 2);
        due("the other player's, to an own piece", why(x, "a6", "a5"), 2);
        due("not ahead, and an own piece", why(x, "a1", "c1"), 3);
        due("not ahead, and a piece of the other player", why(x, "c1", "c4"), 3);
        due("straight ahead, and an own piece", why(x, "a1", "a2"), 4);
        due("straight ahead, and a piece of the other player", why(x, "c3", "c4"), 5);
        due("the same cell", why(x, "a2", "a2"), 3);
        due("an empty cell twice", why(x, "e3", "e3"), 1);
    }

    private static void whyAlways() {
        sentence(7, "(whether the game runs or not)");
        Recipe[] states = {ClockedGameEdgesTest::brokenOff, ClockedGameEdgesTest::over, ClockedGameEdgesTest::fullRecord};
        for (Recipe recipe : states) {
            due("possible", made(recipe).why(6, 12), 0);
            due("not possible", made(recipe).why(6, 18), 3);
        }
    }

    private static void whyBad() {
        sentence(7, "BAD if there is no such cell");
        for (int i : NO_CELLS) {
            due("why from " + i, new ClockedGame().why(i, 12), BAD);
            due("why to " + i, new ClockedGame().why(6, i), BAD);
            due("why to " + i + " from an empty cell", new ClockedGame().why(14, i), BAD);
        }
        due("the least cell", new ClockedGame().why(0, 0), 3);
        due("the greatest cell", new ClockedGame().why(35, 35), 2);
    }

    private static void sealErrors() {
        sentence(8, "Returns the player; BAD if there is no such cell; STATE if the game does not run; FULL if the record is full");
        due("player 0", new ClockedGame().seal(6, 12), 0);
        due("player 1", game("a2a3").seal(24, 18), 1);
        for (int i : NO_CELLS) {
            refused("seal from " + i, x -> x.offer(0), x -> x.seal(i, 12), BAD);
            refused("seal to " + i, x -> x.offer(0), x -> x.seal(6, i), BAD);
        }
        refused("seal again", ClockedGameEdgesTest::brokenOff, x -> x.seal(7, 13), STATE);
        refused("seal behind the end", ClockedGameEdgesTest::over, x -> x.seal(6, 12), STATE);
        refused("seal with a full record", ClockedGameEdgesTest::fullWithOffer, x -> x.seal(24, 18), FULL);
        due("with 199", made(x -> { fill(x, 198); x.offer(0); }).seal(6, 12), 0);
    }

    private static void resumeState() {
        sentence(9, "STATE if it is not broken off");
        refused("resume while it runs", x -> x.pass(1), x -> x.resume(), STATE);
        refused("resume behind the end", ClockedGameEdgesTest::over, x -> x.resume(), STATE);
        refused("resume behind a draw", x -> { x.offer(0); x.answer(true); }, x -> x.resume(), STATE);
        refused("resume again", x -> { brokenOff(x); x.resume(); }, x -> x.resume(), STATE);
        refused("resume behind a resignation", x -> { brokenOff(x); x.resign(0); }, x -> x.resume(), STATE);
    }

    private static void resumeTellsState() {
        sentence(9, "Returns the state of the game then");
        due("it runs", made(ClockedGameEdgesTest::brokenOff).resume(), 0);
        due("player 0 has won", made(x -> { moves(x, "a2a3"); x.seal(0, 0); }).resume(), 2);
        due("player 1 has won", made(x -> x.seal(0, 0)).resume(), 3);
    }

    private static void askErrors() {
        sentence(10, "Returns how many moves would be taken back, 1 or 2; BAD if there is no such player");
        due("one", game("a2a3").ask(0), 1);
        due("two", game("a2a3 a5a4").ask(0), 2);
        due("one", game("a2a3 a5a4").ask(1), 1);
        due("two", game("a2a3 a5a4 b2b3").ask(1), 2);
        for (int i : NO_PLAYERS) refused("ask " + i, x -> moves(x, "a2a3 a5a4"), x -> x.ask(i), BAD);
    }

    private static void askFull() {
        sentence(10, "FULL if the record is full");
        Recipe full = x -> { fill(x, 198); moves(x, "a2a3 a5a4"); };
        refused("ask(0)", full, x -> x.ask(0), FULL);
        refused("ask(1)", full, x -> x.ask(1), FULL);
        due("with 199", made(x -> { fill(x, 198); moves(x, "a2a3"); }).ask(0), 1);
    }

    private static void offerErrors() {
        sentence(11, "Returns 1; BAD if there is no such player; STATE if this player cannot offer it; FULL if the record is full");
        due("player 0", new ClockedGame().offer(0), 1);
        due("player 1", new ClockedGame().offer(1), 1);
        for (int i : NO_PLAYERS) refused("offer " + i, x -> x.pass(1), x -> x.offer(i), BAD);
        refused("offer behind an offer", x -> x.offer(0), x -> x.offer(1), STATE);
        refused("offer with a full record", ClockedGameEdgesTest::fullRecord, x -> x.offer(1), FULL);
        due("with 199", made(x -> { fill(x, 198); moves(x, "a2a3"); }).offer(0), 1);
    }

    private static void answerState() {
        sentence(12, "STATE if no question is open");
        for (boolean agree : new boolean[] {false, true}) {
            refused("answer at first", x -> x.pass(1), x -> x.answer(agree), STATE);
            refused("answer again", x -> { x.offer(0); x.answer(false); }, x -> x.answer(agree), STATE);
            refused("answer behind a move", x -> { x.offer(0); moves(x, "a2a3"); }, x -> x.answer(agree), STATE);
            refused("answer while broken off", x -> { x.offer(0); brokenOff(x); }, x -> x.answer(agree), STATE);
            refused("answer behind the end", x -> { x.offer(0); over(x); }, x -> x.answer(agree), STATE);
        }
    }

    private static void answerFull() {
        sentence(12, "FULL if the record is full, and no draw is agreed");
        refused("refusal of a draw", ClockedGameEdgesTest::fullWithOffer, x -> x.answer(false), FULL);
        refused("refusal of a taking back", ClockedGameEdgesTest::fullWithAsking, x -> x.answer(false), FULL);
        refused("agreement to a taking back", ClockedGameEdgesTest::fullWithAsking, x -> x.answer(true), FULL);
        due("agreement to a draw", made(ClockedGameEdgesTest::fullWithOffer).answer(true), 1);
        Recipe one = x -> { fill(x, 196); moves(x, "a2a3 a5a4"); x.ask(0); };
        due("refusal with 199", made(one).answer(false), 0);
        due("taking back with 199", made(one).answer(true), 2);
    }

    private static void answerTells() {
        sentence(12, "Returns 0 for a refusal, 1 for a draw, 2 for moves taken back");
        due("refusal of a draw", made(x -> x.offer(0)).answer(false), 0);
        due("draw", made(x -> x.offer(1)).answer(true), 1);
        Recipe asked = x -> { moves(x, "a2a3"); x.ask(0); };
        due("refusal of a taking back", made(asked).answer(false), 0);
        due("one move taken back", made(asked).answer(true), 2);
        due("two moves taken back", made(x -> { moves(x, "a2a3 a5a4"); x.ask(0); }).answer(true), 2);
    }

    private static void resignErrors() {
        sentence(13, "BAD if there is no such player; STATE if the game is over");
        for (int i : NO_PLAYERS) refused("resign " + i, x -> x.pass(1), x -> x.resign(i), BAD);
        refused("resign behind state 2", x -> x.resign(1), x -> x.resign(0), STATE);
        refused("resign behind state 3", x -> x.resign(0), x -> x.resign(0), STATE);
        refused("resign behind a draw", x -> { x.offer(0); x.answer(true); }, x -> x.resign(1), STATE);
    }

    private static void resignTellsState() {
        sentence(13, "(it can be broken off)");
        for (int player = 0; player < 2; player++) {
            due("while it runs", new ClockedGame().resign(player), 3 - player);
            ClockedGame x = made(ClockedGameEdgesTest::brokenOff);
            due("while broken off", x.resign(player), 3 - player);
            due("reason", x.game(1), 5);
            record(x, "#5");
        }
    }

    private static void claimErrors() {
        sentence(14, "BAD if there is no such player; STATE if the game does not run, flags fall by themselves, or the clock of the other "
            + "player shows 0 or more");
        Recipe late = x -> { claimFlags(x); x.pass(31); moves(x, "a2a3"); };
        for (int i : NO_PLAYERS) refused("claim " + i, late, x -> x.claim(i), BAD);
        refused("claim while broken off", x -> { late.make(x); x.seal(24, 18); }, x -> x.claim(1), STATE);
        refused("claim behind the end", x -> { late.make(x); x.resign(1); }, x -> x.claim(1), STATE);
        refused("claim with flags that fall", x -> x.pass(1000), x -> x.claim(1), STATE);
        refused("claim of 0", x -> { claimFlags(x); x.pass(10); }, x -> x.claim(1), STATE);
        refused("claim of more than 0", x -> { claimFlags(x); x.pass(9); }, x -> x.claim(1), STATE);
        refused("claim by the late one", late, x -> x.claim(0), STATE);
        due("claim", made(late).claim(1), 3);
        due("claim of -1", made(x -> { claimFlags(x); moves(x, "a2a3"); x.pass(11); }).claim(0), 2);
    }

    private static void atErrors() {
        sentence(15, "NONE if it is empty; BAD if there is no such cell");
        for (int i : NO_CELLS) due("at " + i, new ClockedGame().at(i), BAD);
        due("the first cell", new ClockedGame().at(0), 0);
        due("the last cell", new ClockedGame().at(35), 1);
        due("an empty cell", new ClockedGame().at(12), NONE);
        due("a cell that was left", game("a2a3").at(cell("a2")), NONE);
    }

    private static void gameBad() {
        sentence(16, "BAD if what is not in its range");
        for (int i : new int[] {-1, 9, Integer.MIN_VALUE, Integer.MAX_VALUE}) due("game " + i, new ClockedGame().game(i), BAD);
        for (int i = 0; i < 9; i++) due("game " + i, new ClockedGame().game(i) == BAD ? 1 : 0, 0);
    }

    private static void turnIfNotRunning() {
        sentence(16, "2 whose turn it is (also if it does not run)");
        due("broken off", made(ClockedGameEdgesTest::brokenOff).game(2), 0);
        due("broken off", made(x -> { moves(x, "a2a3"); x.seal(24, 18); }).game(2), 1);
        due("over", made(x -> { moves(x, "a2a3"); x.resign(0); }).game(2), 1);
        due("by a flag", made(x -> x.pass(1001)).game(2), 0);
    }

    private static void endIncluded() {
        sentence(16, "4 the number of entries (the end included)");
        due("none", new ClockedGame().game(4), 0);
        due("the end alone", made(ClockedGameEdgesTest::over).game(4), 1);
        due("a full record and the end", made(x -> { fullRecord(x); x.resign(0); }).game(4), 201);
    }

    private static void askerNone() {
        sentence(16, "7 who has asked (NONE if none is open)");
        due("at first", new ClockedGame().game(7), NONE);
        due("player 0", made(x -> x.offer(0)).game(7), 0);
        due("player 1", made(x -> x.offer(1)).game(7), 1);
        due("player 1 to take back", made(x -> { moves(x, "a2a3 a5a4"); x.ask(1); }).game(7), 1);
        due("behind a refusal", made(x -> { x.offer(1); x.answer(false); }).game(7), NONE);
        due("behind the end", made(x -> { x.offer(1); x.resign(1); }).game(7), NONE);
    }

    private static void countPossible() {
        sentence(16, "8 the number of possible moves of the player whose turn it is");
        due("at first", new ClockedGame().game(8), 16);
        due("player 1", game("a2a3").game(8), 16);
        due("from the first cell and blocked", game("a2a3 a5a4").game(8), 16);
        due("from the last cell and blocked", game("f2f3 f5f4 a2a3").game(8), 16);
        due("behind the end", made(ClockedGameEdgesTest::over).game(8), 16);
        due("without pieces", game(LAST_PIECE_OF_1 + " c4b5").game(8), 0);
        due("one piece, blocked ahead", game(LAST_PIECE_OF_1.substring(0, LAST_PIECE_OF_1.length() - 5)).game(8), 2);
    }

    private static void playerBad() {
        sentence(17, "BAD if an argument is not in its range");
        for (int i : NO_PLAYERS) for (int what = 0; what < 7; what++) due("player " + i, new ClockedGame().player(i, what), BAD);
        for (int what : new int[] {-1, 7, Integer.MIN_VALUE, Integer.MAX_VALUE}) {
            due("player 0, " + what, new ClockedGame().player(0, what), BAD);
            due("player 1, " + what, new ClockedGame().player(1, what), BAD);
        }
    }

    private static void freeOnesIncluded() {
        sentence(17, "2 the ticks that went by for this player, free ones included");
        ClockedGame x = made(g -> { g.set(2, 5); g.pass(5); });
        due("used", x.player(0, 1), 0);
        due("gone", x.player(0, 2), 5);
        due("of the other one", x.player(1, 2), 0);
    }

    private static void possibleErrors() {
        sentence(18, "BAD if i is negative; NONE if there are not so many");
        for (int i : new int[] {-1, Integer.MIN_VALUE}) due("possible " + i, new ClockedGame().possible(i), BAD);
        for (int i : new int[] {16, 17, 1296, Integer.MAX_VALUE}) due("possible " + i, new ClockedGame().possible(i), NONE);
        due("the last one", new ClockedGame().possible(15), 36 * cell("f2") + cell("f3"));
        ClockedGame x = game(LAST_PIECE_OF_1 + " c4b5");
        due("without pieces", x.possible(0), NONE);
        due("without pieces", x.possible(-1), BAD);
    }

    private static void possibleInOrder() {
        sentence(18, "from 0: ordered by the first cell, then by the second one");
        String[] ofPlayer0 = "a2a3 a2b3 b2a3 b2b3 b2c3 c2b3 c2c3 c2d3 d2c3 d2d3 d2e3 e2d3 e2e3 e2f3 f2e3 f2f3".split(" ");
        String[] ofPlayer1 = "a5a4 a5b4 b5a4 b5b4 b5c4 c5b4 c5c4 c5d4 d5c4 d5d4 d5e4 e5d4 e5e4 e5f4 f5e4 f5f4".split(" ");
        for (int i = 0; i < 16; i++) {
            due("possible " + i, new ClockedGame().possible(i), 36 * cell(ofPlayer0[i].substring(0, 2)) + cell(ofPlayer0[i].substring(2)));
            due("possible " + i, game("c2c3").possible(i), 36 * cell(ofPlayer1[i].substring(0, 2)) + cell(ofPlayer1[i].substring(2)));
        }
    }

    private static void writtenEmpty() {
        sentence(19, "Returns the number of its characters");
        due("an empty record", new ClockedGame().written(), 0);
        due("one entry", made(x -> x.offer(0)).written(), 1);
        due("two entries", made(x -> { x.offer(0); x.answer(false); }).written(), 3);
        due("a full record", filled(200).written(), 399);
        due("a full record and the end", made(x -> { fullRecord(x); x.resign(0); }).written(), 402);
    }

    private static void signErrors() {
        sentence(20, "BAD if i is negative; NONE if there are not so many");
        for (int i : new int[] {-1, Integer.MIN_VALUE}) due("sign " + i, game("a2a3").sign(i), BAD);
        for (int i : new int[] {5, 6, 5000, Integer.MAX_VALUE}) due("sign " + i, game("a2a3").sign(i), NONE);
        due("the first", game("a2a3").sign(0), '0');
        due("the last", game("a2a3").sign(4), '3');
        due("of an empty record", new ClockedGame().sign(0), NONE);
        due("of an empty record", new ClockedGame().sign(-1), BAD);
    }

    private static void signBehindUndo() {
        sentence(20, "NONE if there are not so many");
        due("behind begin", made(x -> { moves(x, "a2a3"); x.begin(); }).sign(0), NONE);
        due("behind undo", made(x -> { moves(x, "a2a3"); x.undo(); }).sign(0), NONE);
        due("behind a shorter one", made(x -> { moves(x, "a2a3"); x.begin(); x.offer(0); }).sign(1), NONE);
    }

    private static void meanEdges() {
        sentence(21, "0 if there are no moves; -1 if there is no such player");
        for (int i : NO_PLAYERS) due("mean " + i, new ClockedGame().mean(i), -1f);
        due("no moves", new ClockedGame().mean(0), 0f);
        due("no moves, but ticks", made(x -> x.pass(5)).mean(0), 0f);
        due("no ticks", game("a2a3").mean(0), 0f);
        due("no moves of player 1", game("a2a3").mean(1), 0f);
        due("all moves taken back", made(x -> { x.pass(5); moves(x, "a2a3"); x.ask(0); x.answer(true); }).mean(0), 0f);
    }

    private static void meanAsFloats() {
        sentence(21, "Returns player() 2 divided by player() 4, both as floats");
        due("a third", made(x -> { x.pass(1); moves(x, "a2a3 a5a4 b2b3 b5b4 c2c3"); }).mean(0), 1f / 3f);
        due("free ones", made(x -> { x.set(2, 9); x.pass(9); moves(x, "a2a3"); }).mean(0), 9f);
    }

    private static void meanOfMovesTakenBack() {
        sentence(21, "(those of moves that were taken back, too)");
        Recipe back = x -> { x.pass(5); moves(x, "a2a3"); x.ask(0); x.answer(true); x.pass(2); moves(x, "a2a3"); };
        due("one move", made(back).mean(0), 7f);
        due("two moves", made(x -> { back.make(x); moves(x, "a5a4 b2b3"); }).mean(0), 3.5f);
    }

    private static void typeErrors() {
        sentence(22, "BAD if c is not in its range; FULL if there are 100 characters");
        for (int c : new int[] {31, 127, 0, -1, 128, 288, 65568, Integer.MIN_VALUE, Integer.MAX_VALUE}) {
            refused("type " + c, x -> x.type('5'), x -> x.type(c), BAD);
        }
        refused("type the 101st", x -> typeAll(x, "0".repeat(100)), x -> x.type('0'), FULL);
        due("the 100th", made(x -> typeAll(x, "0".repeat(99))).type('0'), 100);
        due("behind clear", made(x -> { typeAll(x, "0".repeat(100)); x.clear(); }).type('0'), 1);
    }

    private static void clearEmpty() {
        sentence(23, "Returns the number of characters that it had");
        due("empty", new ClockedGame().clear(), 0);
        due("one", made(x -> x.type('5')).clear(), 1);
        due("full", made(x -> typeAll(x, "0".repeat(100))).clear(), 100);
        due("again", made(x -> { x.type('5'); x.clear(); }).clear(), 0);
        due("play", made(x -> { x.type('5'); x.clear(); }).play(), -100);
    }

    private static void playEmpty() {
        sentence(24, "-100 minus the error place if the text has an error");
        refused("play of an empty buffer", x -> x.pass(1), x -> x.play(), -100);
        refused("play of a faulty text", x -> typeAll(x, "5 a2a3 a5a"), x -> x.play(), -110);
    }

    private static void playZero() {
        sentence(24, "(a number 0 does nothing, and is never an error)");
        Recipe[] states = {x -> x.pass(3), ClockedGameEdgesTest::brokenOff, ClockedGameEdgesTest::over, ClockedGameEdgesTest::fullRecord};
        for (Recipe recipe : states) {
            ClockedGame x = made(recipe);
            due("play", playText(x, "0 0000"), 2);
            due("nothing is done", x.fingerprint(), made(recipe).fingerprint());
        }
        refused("play of 1 behind the end", x -> { over(x); typeAll(x, "0 1"); }, x -> x.play(), -1001);
        refused("play of 1 while broken off", x -> { brokenOff(x); typeAll(x, "1"); }, x -> x.play(), -1000);
    }

    private static void playFails() {
        sentence(24, "-1000 minus the index of the first part, from 0, whose call would return an error (nothing is played then)");
        refused("the first part", x -> typeAll(x, "a2a4 1 2"), x -> x.play(), -1000);
        refused("the second part", x -> typeAll(x, "5 a2a4 a2a4"), x -> x.play(), -1001);
        refused("the last of fifty parts", x -> { over(x); typeAll(x, "0 ".repeat(49) + "1"); }, x -> x.play(), -1049);
        refused("a number behind a fallen flag", x -> typeAll(x, "1001 0 1"), x -> x.play(), -1002);
        refused("a move behind the end", x -> { moves(x, NEAR_LAST_ROWS); typeAll(x, "5 b5a6 e2f1"); }, x -> x.play(), -1002);
        refused("a move with a full record", x -> { fill(x, 198); typeAll(x, "a2a3 a5a4 9 b2b3"); }, x -> x.play(), -1003);
        refused("with an open question and six states", x -> { for (int i = 0; i < 6; i++) x.pass(1); x.offer(0); typeAll(x, "a2a3 a2a3"); },
            x -> x.play(), -1001);
        refused("a move back", x -> { moves(x, "a2a3 a5a4"); typeAll(x, "b2b3 a4a5"); }, x -> x.play(), -1001);
    }

    private static void playEmptiesTheBuffer() {
        sentence(24, "The buffer is empty then (with an error it stays)");
        ClockedGame x = made(g -> typeAll(g, "5 a2a3"));
        due("play", x.play(), 2);
        due("clear", x.clear(), 0);
        due("play again", x.play(), -100);
        x = made(g -> typeAll(g, "5 a2a4"));
        due("play", x.play(), -1001);
        due("clear", x.clear(), 6);
        x = made(g -> typeAll(g, "5 a2a"));
        due("play", x.play(), -105);
        due("type goes on", x.type('3'), 6);
        due("play", x.play(), 2);
    }

    private static void playIsOneAct() {
        sentence(24, "This is one act");
        ClockedGame x = made(g -> playText(g, "5 a2a3 6 a5a4 7 b2b3 8 b5b4"));
        due("undo", x.undo(), 0);
        due("all is as it was", x.fingerprint(), new ClockedGame().fingerprint());
        for (int i = 0; i < 6; i++) x.pass(1);
        due("play", playText(x, "a2a3 a5a4"), 2);
        due("the oldest one is dropped", x.undo(), 5);
        due("ticks", x.game(5), 6);
    }

    private static void playAsThoseCalls() {
        sentence(24, "Plays the text: its parts, one after the other, as pass()");
        Recipe settings = x -> { x.set(2, 3); x.set(3, 2); x.set(4, 50); };
        ClockedGame x = made(g -> { settings.make(g); playText(g, "5 2 a2b3 0 a5a4 9999 0"); });
        ClockedGame twin = made(g -> { settings.make(g); g.pass(5); g.pass(2); moves(g, "a2b3 a5a4"); g.pass(9999); });
        due("fingerprint", x.fingerprint(), twin.fingerprint());
        due("the flag fell", x.game(0), 3);
    }

    private static void undoNone() {
        sentence(25, "Returns how many states the history still has; NONE if it has none");
        due("at first", new ClockedGame().undo(), NONE);
        ClockedGame x = made(g -> { g.pass(1); g.pass(1); });
        due("two", x.undo(), 1);
        due("one", x.undo(), 0);
        refused("undo of none", g -> { g.type('5'); }, g -> g.undo(), NONE);
        due("none", x.undo(), NONE);
    }

    private static void fingerprintOverflow() {
        sentence(26, "in long arithmetic with overflow");
        Recipe[] recipes = {x -> { }, x -> x.offer(0), x -> { x.pass(9); moves(x, NEAR_LAST_ROWS + " b5a6"); },
            x -> { fullRecord(x); x.resign(0); }, x -> { x.set(5, 1); for (int i = 0; i < 99; i++) x.pass(9999); }};
        for (int i = 0; i < recipes.length; i++) {
            ClockedGame x = made(recipes[i]);
            due("fingerprint " + i, x.fingerprint(), exactPrint(x).longValue());
        }
    }

    private static BigInteger exactPrint(ClockedGame x) {
        BigInteger print = BigInteger.valueOf(227);
        for (int i = 0; i < 7; i++) print = with(print, x.setting(i));
        for (int i = 0; i < 9; i++) print = with(print, x.game(i));
        for (int i = 0; i < 36; i++) print = with(print, x.at(i));
        for (int i = 0; i < 14; i++) print = with(print, x.player(i / 7, i % 7));
        print = with(print, x.written());
        for (int i = 0; i < x.written(); i++) print = with(print, x.sign(i));
        return print;
    }

    private static BigInteger with(BigInteger print, int number) {
        return print.multiply(BigInteger.valueOf(31)).add(BigInteger.valueOf(number));
    }

    public static void main(String[] args) throws ReflectiveOperationException {
        Method[] methods = ClockedGameEdgesTest.class.getDeclaredMethods();
        Arrays.sort(methods, Comparator.comparing(Method::getName));
        for (Method test : methods) {
            if (test.isSynthetic() || test.getParameterCount() > 0) continue;
            int before = sentences;
            test.invoke(null);
            if (sentences != before + 1) fault(test.getName() + " tests no sentence, or more than one");
        }
        System.out.println(sentences + " sentences");
        tell();
    }
}
