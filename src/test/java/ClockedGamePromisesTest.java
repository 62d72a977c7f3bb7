/** For each promise of the document: ordinary calls, the edges that it names, and wrong arguments. */
public final class ClockedGamePromisesTest extends GameChecks {
    private static void newObject() {
        promise = 1;
        ClockedGame x = new ClockedGame();
        int[] settings = {1000, 10, 0, 0, 0, 0, 2};
        for (int i = 0; i < 7; i++) due("setting " + i, x.setting(i), settings[i]);
        int[] game = {0, 0, 0, 0, 0, 0, 0, NONE, 16};
        for (int i = 0; i < 9; i++) due("game " + i, x.game(i), game[i]);
        int[] player = {1000, 0, 0, 0, 0, 0, 12};
        for (int p = 0; p < 2; p++) for (int i = 0; i < 7; i++) due("player " + p + " " + i, x.player(p, i), player[i]);
        for (int c = 0; c < 36; c++) due("at " + c, x.at(c), c < 12 ? 0 : c < 24 ? NONE : 1);
        record(x, "");
        due("undo", x.undo(), NONE);
        due("play", x.play(), -100);
    }

    private static void begin() {
        promise = 2;
        ClockedGame x = new ClockedGame();
        x.set(0, 50);
        due("clock before", x.player(0, 0), 1000);
        x.pass(7);
        moves(x, "a2a3 a5a4");
        x.ask(0);
        due("begin", x.begin(), 3);
        due("clock", x.player(0, 0), 50);
        due("clock", x.player(1, 0), 50);
        due("used", x.player(0, 1), 0);
        due("gone", x.player(0, 2), 0);
        due("added", x.player(0, 3), 0);
        due("moves", x.player(0, 4), 0);
        due("question", x.game(6), 0);
        due("asker", x.game(7), NONE);
        due("piece", x.at(cell("a2")), 0);
        due("no piece", x.at(cell("a3")), NONE);
        record(x, "");
        due("undo", x.undo(), 5);
        due("question again", x.game(6), 1);
        record(x, "7a2a3 0a5a4 ?");
        x.resign(0);
        due("begin behind the end", x.begin(), 4);
        due("state", x.game(0), 0);
        due("reason", x.game(1), 0);
        due("turn", x.game(2), 0);
        x.seal(6, 12);
        due("begin while broken off", x.begin(), 0);
        due("resume", x.resume(), STATE);
        nothingIsLeftBehindBegin();
    }

    private static void nothingIsLeftBehindBegin() {
        ClockedGame x = new ClockedGame();
        moves(x, "a2a3 a5a4");
        x.ask(0);
        x.answer(true);
        moves(x, "a2a3");
        x.pass(8);
        x.begin();
        due("moves", x.game(3), 0);
        due("ticks", x.game(5), 0);
        due("taken back", x.player(0, 5), 0);
        due("gone", x.player(1, 2), 0);
        due("ask", x.ask(0), STATE);
        due("ask", x.ask(1), STATE);
    }

    private static void set() {
        promise = 3;
        int[] least = {1, 0, 0, 0, 0, 0, 0};
        int[] most = {100000, 1000, 1000, 50, 10000, 1, 20};
        int[] initial = {1000, 10, 0, 0, 0, 0, 2};
        for (int i = 0; i < 7; i++) {
            ClockedGame x = new ClockedGame();
            due("set under " + i, x.set(i, least[i] - 1), BAD);
            due("set over " + i, x.set(i, most[i] + 1), BAD);
            due("undo", x.undo(), NONE);
            due("set least " + i, x.set(i, least[i]), initial[i]);
            due("set most " + i, x.set(i, most[i]), least[i]);
            due("setting " + i, x.setting(i), most[i]);
            due("undo", x.undo(), 1);
            due("setting " + i, x.setting(i), least[i]);
        }
        ClockedGame x = new ClockedGame();
        due("set -1", x.set(-1, 1), BAD);
        due("set 7", x.set(7, 1), BAD);
        x.pass(4);
        x.set(2, 6);
        due("two free ones are left", x.pass(3), 995);
        x.set(1, 33);
        moves(x, "a2a3");
        due("increment from now on", x.player(0, 0), 1028);
        flagsBehindSet();
    }

    private static void flagsBehindSet() {
        ClockedGame x = withClaimedFlags();
        x.pass(30);
        moves(x, "a2a3");
        due("clock", x.player(0, 0), -10);
        due("set", x.set(5, 0), 1);
        due("flag of the one not on turn", x.game(0), 3);
        due("reason", x.game(1), 4);
        due("turn", x.game(2), 1);
        x.undo();
        due("clock", x.pass(11), -1);
        x.set(5, 0);
        due("both: the one on turn loses", x.game(0), 2);
        x.undo();
        x.seal(cell("a5"), cell("a4"));
        x.set(5, 0);
        due("not looked at while broken off", x.game(0), 1);
        due("looked at when it is resumed", x.resume(), 3);
        record(x, "30a2a3 *11a5a4 #4");
    }

    private static void setting() {
        promise = 4;
        ClockedGame x = new ClockedGame();
        x.set(4, 77);
        due("setting", x.setting(4), 77);
        due("setting -1", x.setting(-1), BAD);
        due("setting 7", x.setting(7), BAD);
        due("setting", x.setting(Integer.MIN_VALUE), BAD);
    }

    private static void pass() {
        promise = 5;
        ClockedGame x = new ClockedGame();
        due("pass 0", x.pass(0), BAD);
        due("pass 10000", x.pass(10000), BAD);
        due("undo", x.undo(), NONE);
        due("pass", x.pass(1000), 0);
        due("still runs", x.game(0), 0);
        due("pass", x.pass(9999), -1);
        due("state", x.game(0), 3);
        due("ticks of the turn", x.game(5), 1001);
        due("used", x.player(0, 1), 1001);
        due("turn", x.game(2), 0);
        record(x, "#4");
        due("pass behind the end", x.pass(1), STATE);
        due("pass 0 behind the end", x.pass(0), BAD);
        x = new ClockedGame();
        x.set(2, 5);
        due("free ones", x.pass(3), 1000);
        due("free ones and others", x.pass(9999), -1);
        due("gone", x.player(0, 2), 1006);
        due("used", x.player(0, 1), 1001);
        x = new ClockedGame();
        x.set(1, 0);
        x.pass(1000);
        moves(x, "a2a3");
        due("a clock that shows 0 is no fallen flag", x.pass(1), 999);
        due("state", x.game(0), 0);
        x = withClaimedFlags();
        due("claimed flags", x.pass(9999), -9989);
        due("gone", x.player(0, 2), 9999);
        due("state", x.game(0), 0);
        x.seal(6, 12);
        due("pass while broken off", x.pass(1), STATE);
        clockLikeAFault();
    }

    /** A clock can show the number of a fault; the call is an act all the same. */
    private static void clockLikeAFault() {
        ClockedGame x = withClaimedFlags();
        for (int i = 0; i < 20; i++) x.pass(9999);
        due("clock", x.player(0, 0), 10 - 199980);
        due("play", playText(x, "31 a2a3"), 2);
        x.undo();
        due("pass", x.pass(31), BAD);
        due("clock", x.player(0, 0), BAD);
        due("undo", x.undo(), 5);
        due("clock", x.player(0, 0), 10 - 199980);
        due("play", playText(x, "32"), 1);
        due("clock", x.player(0, 0), STATE);
    }

    private static void move() {
        promise = 6;
        ClockedGame x = new ClockedGame();
        x.set(2, 4);
        x.set(3, 2);
        x.set(4, 100);
        due("move -1", x.move(-1, 6), BAD);
        due("move 36", x.move(6, 36), BAD);
        due("move of the other", x.move(24, 18), STATE);
        x.pass(9);
        due("move", x.move(cell("b2"), cell("c3")), 0);
        due("clock", x.player(0, 0), 1005);
        due("turn", x.game(2), 1);
        due("ticks", x.game(5), 0);
        due("from", x.at(cell("b2")), NONE);
        due("to", x.at(cell("c3")), 0);
        x.pass(3);
        moves(x, "d5d4");
        due("a piece is taken", x.move(cell("c3"), cell("d4")), 1);
        due("bonus with the second move", x.player(0, 0), 1115);
        due("added", x.player(0, 3), 120);
        due("pieces", x.player(1, 6), 11);
        record(x, "9b2c3 3d5d4 0c3d4x");
        lastRow();
        questionByMove();
        full();
        lastPiece();
    }

    private static void lastRow() {
        ClockedGame x = new ClockedGame();
        moves(x, "a2a3 f5f4 a3a4 f4f3 a4b5 f3e2");
        record(x, "0a2a3 0f5f4 0a3a4 0f4f3 0a4b5x 0f3e2x");
        due("last row", x.move(cell("b5"), cell("a6")), 1);
        due("state", x.game(0), 2);
        due("reason", x.game(1), 1);
        due("turn", x.game(2), 1);
        due("entries", x.game(4), 8);
        due("move behind the end", x.move(cell("e2"), cell("d1")), STATE);
        x.undo();
        x.pass(1);
        moves(x, "a1a2");
        due("last row of player 1", x.move(cell("e2"), cell("f1")), 1);
        due("state", x.game(0), 3);
        due("turn", x.game(2), 0);
        record(x, "0a2a3 0f5f4 0a3a4 0f4f3 0a4b5x 0f3e2x 1a1a2 0e2f1x #1");
    }

    private static void questionByMove() {
        ClockedGame x = new ClockedGame();
        x.offer(0);
        moves(x, "a2a3");
        due("question", x.game(6), 0);
        due("asker", x.game(7), NONE);
        due("answer", x.answer(true), STATE);
    }

    private static void full() {
        ClockedGame x = filled(200);
        due("full", x.move(6, 12), FULL);
        due("not possible", x.move(6, 18), STATE);
        due("bad", x.move(6, 36), BAD);
        x = filled(198);
        x.offer(0);
        due("last entry", x.move(6, 12), 0);
        due("entries", x.game(4), 200);
        due("the end has room", x.resign(1), 2);
        due("entries", x.game(4), 201);
        due("last sign", x.sign(x.written() - 1), '5');
        due("sign before it", x.sign(x.written() - 2), '#');
    }

    /** Both take where they can, until one has no piece left. */
    private static void lastPiece() {
        ClockedGame x = new ClockedGame();
        for (int i = 0; i < 200 && x.game(0) == 0; i++) x.move(best(x) / 36, best(x) % 36);
        due("state is over", x.game(0) > 1 ? 1 : 0, 1);
        due("pieces", Math.min(x.player(0, 6), x.player(1, 6)), 0);
        due("reason", x.game(1), 2);
        int loser = x.player(0, 6) == 0 ? 0 : 1;
        due("state", x.game(0), 3 - loser);
        due("turn", x.game(2), loser);
        due("no possible moves", x.game(8), 0);
        due("no possible move", x.possible(0), NONE);
        due("sign", x.sign(x.written() - 1), '2');
    }

    /** Takes where it can, and comes to the last row only when nothing else is left. */
    private static int best(ClockedGame x) {
        int found = NONE;
        int value = -1;
        for (int i = 0; i < x.game(8); i++) {
            int to = x.possible(i) % 36;
            int last = to < 6 || to > 29 ? 0 : 4;
            int taking = x.at(to) == NONE ? 0 : 2;
            if (last + taking > value) {
                value = last + taking;
                found = x.possible(i);
            }
        }
        return found;
    }

    private static void whyNot() {
        promise = 7;
        ClockedGame x = new ClockedGame();
        due("why -1", x.why(-1, 0), BAD);
        due("why 36", x.why(0, 36), BAD);
        due("possible", why(x, "c2", "c3"), 0);
        due("possible", why(x, "c2", "b3"), 0);
        due("possible", why(x, "c2", "d3"), 0);
        due("no piece", why(x, "c3", "c4"), 1);
        due("the other player's", why(x, "c5", "c4"), 2);
        due("two ahead", why(x, "c2", "c4"), 3);
        due("two beside", why(x, "c2", "e3"), 3);
        due("back", why(x, "c2", "c1"), 3);
        due("beside", why(x, "c2", "d2"), 3);
        due("itself", why(x, "c2", "c2"), 3);
        due("round the border", why(x, "f1", "a3"), 3);
        due("round the border", why(x, "a2", "f2"), 3);
        due("own piece ahead", why(x, "c1", "c2"), 4);
        due("own piece beside", why(x, "c1", "d2"), 4);
        moves(x, "c2c3 d5d4 a2a3");
        due("turn of player 1", why(x, "c2", "c3"), 1);
        due("turn of player 1", why(x, "c3", "c4"), 2);
        due("one row down", why(x, "d4", "d3"), 0);
        due("taking", why(x, "d4", "c3"), 0);
        due("up", why(x, "d4", "d5"), 3);
        moves(x, "c5c4");
        due("straight ahead is taken", why(x, "c3", "c4"), 5);
        due("beside it can be taken", why(x, "c3", "d4"), 0);
        x.resign(0);
        due("also behind the end", why(x, "c3", "c4"), 5);
        due("also behind the end", why(x, "c3", "d4"), 0);
    }

    private static void seal() {
        promise = 8;
        ClockedGame x = new ClockedGame();
        due("seal -1", x.seal(-1, 0), BAD);
        due("seal 36", x.seal(0, 36), BAD);
        x.pass(5);
        x.offer(1);
        due("the same cell twice", x.seal(20, 20), 0);
        due("state", x.game(0), 1);
        due("ticks", x.game(5), 5);
        due("question", x.game(6), 0);
        due("entries", x.game(4), 1);
        due("seal again", x.seal(6, 12), STATE);
        due("move", x.move(6, 12), STATE);
        due("ask", x.ask(0), STATE);
        due("offer", x.offer(0), STATE);
        due("claim", x.claim(0), STATE);
        due("bad before state", x.seal(36, 12), BAD);
        x = new ClockedGame();
        moves(x, "a2a3");
        due("player 1", x.seal(24, 18), 1);
        due("full", filled(200).seal(6, 12), FULL);
        due("bad before full", filled(200).seal(6, 36), BAD);
        due("not full", filled(198).seal(6, 12), 0);
    }

    private static void resume() {
        promise = 9;
        ClockedGame x = new ClockedGame();
        due("resume", x.resume(), STATE);
        x.pass(12);
        x.seal(cell("a2"), cell("b3"));
        due("resume", x.resume(), 0);
        record(x, "*12a2b3");
        due("clock", x.player(0, 0), 998);
        due("moves", x.game(3), 1);
        due("turn", x.game(2), 1);
        due("resume again", x.resume(), STATE);
        x.pass(3);
        x.seal(cell("a5"), cell("a3"));
        due("not possible", x.resume(), 2);
        due("reason", x.game(1), 7);
        due("turn", x.game(2), 1);
        due("moves", x.game(3), 1);
        due("ticks", x.game(5), 3);
        due("clock", x.player(1, 0), 997);
        record(x, "*12a2b3 *3a5a3 #7");
        x = new ClockedGame();
        moves(x, "a2a3 b5b4");
        x.seal(cell("a3"), cell("b4"));
        x.resume();
        record(x, "0a2a3 0b5b4 *0a3b4x");
        x.ask(0);
        x.answer(true);
        due("a sealed move is taken back", x.at(cell("b4")), 1);
        sealedAtTheEdges();
    }

    private static void sealedAtTheEdges() {
        ClockedGame x = filled(200);
        x.undo();
        x.undo();
        x.offer(0);
        due("entries", x.game(4), 199);
        x.seal(0, 0);
        due("resume", x.resume(), 3);
        due("entries", x.game(4), 201);
        x = withClaimedFlags();
        x.pass(15);
        x.seal(cell("a2"), cell("a3"));
        x.set(5, 0);
        due("the increment comes first", x.resume(), 0);
        due("clock", x.player(0, 0), 5);
        x = withClaimedFlags();
        x.pass(15);
        x.seal(cell("a2"), cell("a4"));
        x.set(5, 0);
        x.resume();
        due("not possible comes before the flag", x.game(1), 7);
        x = new ClockedGame();
        moves(x, "a2a3 f5f4 a3a4 f4f3 a4b5 f3e2");
        x.seal(cell("b5"), cell("a6"));
        due("wins by a sealed move", x.resume(), 2);
        due("reason", x.game(1), 1);
    }

    private static void ask() {
        promise = 10;
        ClockedGame x = new ClockedGame();
        due("ask -1", x.ask(-1), BAD);
        due("ask 2", x.ask(2), BAD);
        due("no move made", x.ask(0), STATE);
        moves(x, "a2a3");
        due("player 1 has made none", x.ask(1), STATE);
        due("one move", x.ask(0), 1);
        due("question", x.game(6), 1);
        due("asker", x.game(7), 0);
        record(x, "0a2a3 ?");
        due("a question is open", x.ask(0), STATE);
        x.pass(1);
        due("a question stays open", x.game(6), 1);
        moves(x, "a5a4");
        due("two moves", x.ask(0), 2);
        x.undo();
        due("one move", x.ask(1), 1);
        x.answer(true);
        due("fewer than the setting", x.player(1, 5), 1);
        moves(x, "a5a4 b2b3");
        due("two moves", x.ask(1), 2);
        x.answer(true);
        due("one more than it says", x.player(1, 5), 3);
        moves(x, "a5a4");
        due("as many as the setting", x.ask(1), STATE);
        x.set(6, 4);
        due("counts from now on", x.ask(1), 1);
        x.resign(0);
        due("behind the end", x.ask(1), STATE);
        x = filled(198);
        moves(x, "a2a3 a5a4");
        due("full", x.ask(0), FULL);
        x.set(6, 0);
        due("state before full", x.ask(0), STATE);
        due("bad before full", x.ask(2), BAD);
    }

    private static void offer() {
        promise = 11;
        ClockedGame x = new ClockedGame();
        due("offer 2", x.offer(2), BAD);
        due("offer -1", x.offer(-1), BAD);
        due("offer of the one not on turn", x.offer(1), 1);
        due("question", x.game(6), 2);
        due("asker", x.game(7), 1);
        record(x, "=");
        due("a question is open", x.offer(0), STATE);
        due("a question is open", x.offer(2), BAD);
        x.resign(1);
        due("question", x.game(6), 0);
        due("behind the end", x.offer(0), STATE);
        due("full", filled(200).offer(0), FULL);
        due("bad before full", filled(200).offer(2), BAD);
    }

    private static void answer() {
        promise = 12;
        ClockedGame x = new ClockedGame();
        due("answer", x.answer(true), STATE);
        due("answer", x.answer(false), STATE);
        x.set(1, 7);
        x.set(2, 2);
        x.pass(5);
        moves(x, "a2b3 a5a4");
        x.pass(1);
        moves(x, "b3a4");
        x.pass(4);
        x.ask(0);
        due("refusal", x.answer(false), 0);
        due("question", x.game(6), 0);
        x.ask(0);
        due("taken back", x.answer(true), 2);
        due("turn", x.game(2), 0);
        due("ticks", x.game(5), 0);
        due("moves", x.game(3), 2);
        due("piece again", x.at(cell("a4")), 1);
        due("piece again", x.at(cell("b3")), 0);
        due("clock", x.player(0, 0), 1000 - 3 + 7);
        due("used stays", x.player(0, 1), 3);
        due("gone stays", x.player(0, 2), 6);
        due("clock", x.player(1, 0), 1000 - 2 + 7);
        due("pieces", x.player(1, 6), 12);
        due("taken back", x.player(0, 5), 1);
        record(x, "5a2b3 0a5a4 1b3a4x ? ! ? <1");
        due("free ones again", x.pass(2), 1004);
        x.ask(1);
        due("two taken back", x.answer(true), 2);
        due("taken back", x.player(1, 5), 1);
        due("turn", x.game(2), 1);
        x.offer(1);
        due("a draw", x.answer(true), 1);
        due("state", x.game(0), 4);
        due("reason", x.game(1), 6);
        due("turn", x.game(2), 1);
        record(x, "5a2b3 0a5a4 1b3a4x ? ! ? <1 ? <1 = #6");
        fullAnswers();
        flagsBehindTakingBack();
    }

    private static void fullAnswers() {
        ClockedGame x = filled(198);
        moves(x, "a2a3");
        x.ask(0);
        due("entries", x.game(4), 200);
        due("full", x.answer(true), FULL);
        due("full", x.answer(false), FULL);
        due("question", x.game(6), 1);
        x = filled(198);
        moves(x, "a2a3");
        x.offer(0);
        due("full", x.answer(false), FULL);
        due("a draw is agreed", x.answer(true), 1);
        due("entries", x.game(4), 201);
    }

    private static void flagsBehindTakingBack() {
        ClockedGame x = new ClockedGame();
        x.set(0, 10);
        x.begin();
        moves(x, "a2a3 a5a4");
        x.pass(15);
        moves(x, "b2b3");
        x.pass(15);
        due("clock", x.player(0, 0), 15);
        due("clock", x.player(1, 0), 5);
        x.ask(1);
        due("taken back", x.answer(true), 2);
        due("the one on turn loses", x.game(0), 2);
        due("reason", x.game(1), 4);
        due("turn", x.game(2), 1);
        due("clock", x.player(0, 0), 5);
        due("clock", x.player(1, 0), -5);
        record(x, "0a2a3 0a5a4 15b2b3 ? <2 #4");
        x = withClaimedFlags();
        moves(x, "a2a3");
        x.pass(30);
        moves(x, "a5a4");
        x.ask(1);
        x.answer(true);
        due("claimed flags do not fall", x.game(0), 0);
        due("clock", x.player(1, 0), -20);
    }

    private static void resign() {
        promise = 13;
        ClockedGame x = new ClockedGame();
        due("resign 2", x.resign(2), BAD);
        due("resign -1", x.resign(-1), BAD);
        due("resign 0", x.resign(0), 3);
        due("reason", x.game(1), 5);
        record(x, "#5");
        due("again", x.resign(1), STATE);
        due("bad before state", x.resign(2), BAD);
        x.undo();
        x.offer(0);
        due("not on turn", x.resign(1), 2);
        due("question closed", x.game(6), 0);
        due("turn", x.game(2), 0);
        record(x, "= #5");
        x.undo();
        x.seal(6, 12);
        due("broken off", x.resign(0), 3);
        due("resume", x.resume(), STATE);
        due("record is full", filled(200).resign(0), 3);
    }

    private static void claim() {
        promise = 14;
        ClockedGame x = withClaimedFlags();
        due("claim 2", x.claim(2), BAD);
        due("claim -1", x.claim(-1), BAD);
        x.pass(10);
        due("the clock shows 0", x.claim(1), STATE);
        x.pass(1);
        due("own flag", x.claim(0), STATE);
        due("claim", x.claim(1), 3);
        due("reason", x.game(1), 4);
        record(x, "#4");
        due("over", x.claim(1), STATE);
        x.undo();
        moves(x, "a2a3");
        due("the increment came", x.claim(1), STATE);
        x = withClaimedFlags();
        x.pass(40);
        moves(x, "a2a3");
        x.seal(24, 18);
        due("broken off", x.claim(1), STATE);
        x.undo();
        due("claimed later", x.claim(1), 3);
        due("state", x.game(0), 3);
        due("flags fall", new ClockedGame().claim(0), STATE);
    }

    private static void at() {
        promise = 15;
        ClockedGame x = new ClockedGame();
        due("at -1", x.at(-1), BAD);
        due("at 36", x.at(36), BAD);
        due("at 0", x.at(0), 0);
        due("at 12", x.at(12), NONE);
        due("at 35", x.at(35), 1);
    }

    private static void game() {
        promise = 16;
        ClockedGame x = new ClockedGame();
        due("game -1", x.game(-1), BAD);
        due("game 9", x.game(9), BAD);
        x.set(2, 3);
        moves(x, "a2a3 a5a4 b2b3");
        x.pass(2);
        x.pass(5);
        x.offer(0);
        int[] want = {0, 0, 1, 3, 4, 7, 2, 0, 16};
        for (int i = 0; i < 9; i++) due("game " + i, x.game(i), want[i]);
        x.resign(1);
        int[] over = {2, 5, 1, 3, 5, 7, 0, NONE, 16};
        for (int i = 0; i < 9; i++) due("game " + i, x.game(i), over[i]);
    }

    private static void player() {
        promise = 17;
        ClockedGame x = new ClockedGame();
        due("player -1", x.player(-1, 0), BAD);
        due("player 2", x.player(2, 6), BAD);
        due("what -1", x.player(0, -1), BAD);
        due("what 7", x.player(1, 7), BAD);
        x.set(2, 3);
        x.set(3, 1);
        x.set(4, 5);
        x.pass(10);
        moves(x, "a2b3 a5a4 b3a4");
        x.ask(1);
        x.answer(true);
        x.pass(1);
        int[] first = {1008, 7, 10, 15, 1, 0, 12};
        int[] second = {1000, 0, 1, 0, 0, 2, 12};
        for (int i = 0; i < 7; i++) due("player 0 " + i, x.player(0, i), first[i]);
        for (int i = 0; i < 7; i++) due("player 1 " + i, x.player(1, i), second[i]);
        due("bonus for each", x.move(24, 18), 0);
        due("clock", x.player(1, 0), 1015);
    }

    private static void possible() {
        promise = 18;
        ClockedGame x = new ClockedGame();
        due("possible -1", x.possible(-1), BAD);
        due("possible 0", x.possible(0), 36 * 6 + 12);
        due("possible 1", x.possible(1), 36 * 6 + 13);
        due("possible 2", x.possible(2), 36 * 7 + 12);
        due("possible 15", x.possible(15), 36 * 11 + 17);
        due("possible 16", x.possible(16), NONE);
        due("possible many", x.possible(Integer.MAX_VALUE), NONE);
        moves(x, "a2a3");
        due("player 1", x.possible(0), 36 * 24 + 18);
        due("player 1", x.possible(15), 36 * 29 + 23);
        for (int i = 0; i < x.game(8); i++) due("why", x.why(x.possible(i) / 36, x.possible(i) % 36), 0);
    }

    private static void written() {
        promise = 19;
        ClockedGame x = new ClockedGame();
        due("written", x.written(), 0);
        x.pass(123);
        moves(x, "a2a3");
        due("written", x.written(), 7);
        x.offer(0);
        due("written", x.written(), 9);
        x.begin();
        due("written", x.written(), 0);
    }

    private static void sign() {
        promise = 20;
        ClockedGame x = new ClockedGame();
        due("sign -1", x.sign(-1), BAD);
        due("sign 0", x.sign(0), NONE);
        x.set(5, 1);
        for (int i = 0; i < 11; i++) x.pass(9999);
        moves(x, "f2e3");
        record(x, "109989f2e3");
        due("sign behind it", x.sign(10), NONE);
        x.begin();
        due("sign of the old record", x.sign(0), NONE);
        x.ask(0);
        x.offer(1);
        x.answer(false);
        moves(x, "a2a3 f5f4 b2b3");
        x.ask(1);
        x.answer(true);
        x.pass(10);
        x.seal(cell("f5"), cell("e4"));
        x.resume();
        x.offer(0);
        x.answer(true);
        record(x, "= ! 0a2a3 0f5f4 0b2b3 ? <2 *10f5e4 = #6");
        due("sign behind it", x.sign(x.written()), NONE);
        due("sign", x.sign(Integer.MAX_VALUE), NONE);
    }

    private static void mean() {
        promise = 21;
        ClockedGame x = new ClockedGame();
        due("mean 2", Float.floatToIntBits(x.mean(2)), Float.floatToIntBits(-1f));
        due("mean -1", Float.floatToIntBits(x.mean(-1)), Float.floatToIntBits(-1f));
        x.pass(5);
        due("no moves", Float.floatToIntBits(x.mean(0)), 0);
        moves(x, "a2a3 a5a4 b2b3");
        due("mean", Float.floatToIntBits(x.mean(0)), Float.floatToIntBits(2.5f));
        moves(x, "b5b4 c2c3");
        due("mean", Float.floatToIntBits(x.mean(0)), Float.floatToIntBits(5f / 3f));
        x.ask(0);
        x.answer(true);
        due("ticks of moves taken back", Float.floatToIntBits(x.mean(0)), Float.floatToIntBits(2.5f));
    }

    private static void type() {
        promise = 22;
        ClockedGame x = new ClockedGame();
        due("type 31", x.type(31), BAD);
        due("type 127", x.type(127), BAD);
        due("type 32", x.type(32), 1);
        due("type 126", x.type(126), 2);
        for (int i = 3; i <= 100; i++) due("type", x.type('0'), i);
        due("type the 101st", x.type('0'), FULL);
        due("bad before full", x.type(127), BAD);
        due("no act", x.undo(), NONE);
    }

    private static void clear() {
        promise = 23;
        ClockedGame x = new ClockedGame();
        due("clear", x.clear(), 0);
        x.type('4');
        x.type('x');
        due("clear", x.clear(), 2);
        due("clear again", x.clear(), 0);
        due("type", x.type('4'), 1);
        due("no act", x.undo(), NONE);
        due("the buffer is not in the history", x.clear(), 1);
    }

    private static void play() {
        promise = 24;
        String[] faulty = {"", " ", "A", "12345", "12a", "a", "a7", "a0", "a2", "a2a", "a2a3 ", "a2a3a", "a2a34", "a2g3",
            "a2 a3", "1  2", "1 2 ", "g2a3", "a22", "1 a2a3-", "0000 00000"};
        int[] places = {0, 0, 0, 4, 2, 1, 1, 1, 2, 3, 5, 4, 4, 2, 2, 2, 4, 0, 2, 6, 9};
        for (int i = 0; i < faulty.length; i++) {
            ClockedGame x = new ClockedGame();
            due("play " + faulty[i], playText(x, faulty[i]), -100 - places[i]);
            due("the text stays", x.clear(), faulty[i].length());
            due("no act", x.undo(), NONE);
        }
        ClockedGame x = new ClockedGame();
        due("play", playText(x, "0012 a2b3 0 0000 7 a5a4 9 b3a4"), 8);
        record(x, "12a2b3 7a5a4 9b3a4x");
        due("the text is gone", x.clear(), 0);
        due("one act", x.undo(), 0);
        record(x, "");
        due("the text does not come again", x.clear(), 0);
        due("the borders", playText(x, "f2f3 f5f4 a1a2"), -1002);
        due("the borders", playText(x, "a2a3 a6a5"), -1001);
        due("the borders", playText(x, "f2f3 f5f4"), 2);
        partsWithErrors();
    }

    private static void partsWithErrors() {
        ClockedGame x = new ClockedGame();
        due("a move that is not possible", playText(x, "5 a2a3 0 a2a3"), -1003);
        due("nothing is played", x.game(4), 0);
        due("no ticks went by", x.player(0, 2), 0);
        due("no act", x.undo(), NONE);
        due("the text stays", x.type('9'), 14);
        due("the fault of the text is told first", playText(x, "a2a6 a2a3x"), -109);
        due("the flag falls in a text", playText(x, "1001 0 0"), 3);
        due("state", x.game(0), 3);
        due("0 behind the end", playText(x, "0"), 1);
        due("history", x.undo(), 1);
        due("a number behind the end", playText(x, "0 1"), -1001);
        due("a move behind the end", playText(x, "a2a3"), -1000);
        x = filled(200);
        due("full", playText(x, "3 a2a3"), -1001);
        due("0 is no error", playText(x, "0"), 1);
        x = new ClockedGame();
        due("the most parts", playText(x, "1 1 1 1 1 1 1 1 1 1 1 1 1 1 1 1 1 1 1 1 1 1 1 1 1 1 1 1 1 1 1 1 1 1 1 1 1 1 1 1 1 1 1 1 1 1 1 1 1 11"), 50);
        due("ticks", x.game(5), 60);
        oldestStateStays();
    }

    private static void oldestStateStays() {
        ClockedGame x = new ClockedGame();
        for (int i = 1; i <= 6; i++) x.pass(i);
        due("play", playText(x, "5 a2a6"), -1001);
        for (int i = 5; i >= 0; i--) due("undo", x.undo(), i);
        due("the first state", x.player(0, 2), 0);
    }

    private static void undo() {
        promise = 25;
        ClockedGame x = new ClockedGame();
        due("undo", x.undo(), NONE);
        long[] prints = new long[9];
        for (int i = 0; i < 9; i++) {
            prints[i] = x.fingerprint();
            if (i % 3 == 2) moves(x, i == 2 ? "a2a3" : i == 5 ? "a5a4" : "b2b3");
            else x.set(i % 2 + 1, 100 + i);
        }
        for (int i = 8; i >= 3; i--) {
            due("undo", x.undo(), i - 3);
            due("fingerprint", x.fingerprint(), prints[i]);
        }
        due("undo", x.undo(), NONE);
        due("fingerprint", x.fingerprint(), prints[3]);
        actsAndOthers();
    }

    private static void actsAndOthers() {
        ClockedGame x = new ClockedGame();
        x.begin();
        due("an act that leaves all as it was", x.undo(), 0);
        x.set(0, 1000);
        x.why(6, 12);
        x.possible(0);
        x.game(0);
        x.type('0');
        x.clear();
        x.move(0, 0);
        x.resume();
        due("no others are acts", x.undo(), 0);
        moves(x, "a2b3 a5a4 b3a4");
        x.seal(24, 25);
        x.undo();
        due("state", x.game(0), 0);
        x.ask(0);
        x.answer(true);
        x.undo();
        due("question", x.game(6), 1);
        due("moves", x.game(3), 3);
        due("pieces", x.player(1, 6), 11);
        x.undo();
        x.undo();
        due("pieces", x.player(1, 6), 12);
        due("resume a state", x.resume(), STATE);
        allIsRestored();
        movesTakenBackAreRestored();
        eachActIsKept();
    }

    /** A move is taken back, another is made in its place, and undo() brings the first one again. */
    private static void movesTakenBackAreRestored() {
        ClockedGame x = new ClockedGame();
        x.set(1, 20);
        moves(x, "a2b3 a5a4 b3a4");
        x.ask(0);
        x.answer(true);
        long back = x.fingerprint();
        x.set(1, 5);
        moves(x, "f2f3");
        for (int i = 0; i < 3; i++) x.undo();
        due("question", x.game(6), 1);
        due("answer", x.answer(true), 2);
        due("the first move is taken back", x.fingerprint(), back);
    }

    private static void allIsRestored() {
        ClockedGame x = new ClockedGame();
        x.set(1, 20);
        x.pass(3);
        moves(x, "a2b3 a5a4 b3a4");
        x.pass(9);
        x.ask(0);
        long asked = x.fingerprint();
        x.begin();
        moves(x, "f2f3");
        x.set(1, 5);
        x.undo();
        x.undo();
        x.undo();
        due("ticks, question and asker again", x.fingerprint(), asked);
        x.answer(true);
        record(x, "3a2b3 0a5a4 0b3a4x ? <1");
        due("added", x.player(0, 3), 20);
        due("clock", x.player(0, 0), 1017);
        due("from", x.at(cell("b3")), 0);
        due("target", x.at(cell("a4")), 1);
        long taken = x.fingerprint();
        x.begin();
        due("taken back", x.player(0, 5), 0);
        x.undo();
        due("taken back and used again", x.fingerprint(), taken);
        x.seal(cell("b3"), cell("c4"));
        x.begin();
        x.seal(cell("f2"), cell("f3"));
        x.undo();
        x.undo();
        due("the sealed move is the old one", x.resume(), 0);
        due("to", x.at(cell("c4")), 0);
        x.resign(1);
        long over = x.fingerprint();
        x.begin();
        x.undo();
        due("state and reason again", x.fingerprint(), over);
    }

    private static void eachActIsKept() {
        ClockedGame x = new ClockedGame();
        x.pass(1);
        x.seal(cell("a2"), cell("a3"));
        x.resume();
        x.ask(0);
        due("ask", x.undo(), 3);
        due("question", x.game(6), 0);
        due("resume", x.undo(), 2);
        due("state", x.game(0), 1);
        due("seal", x.undo(), 1);
        due("state", x.game(0), 0);
        x = withClaimedFlags();
        x.pass(20);
        x.claim(1);
        x.begin();
        due("history", x.undo(), 5);
        due("state", x.game(0), 3);
        due("claim", x.undo(), 4);
        due("state", x.game(0), 0);
        x.offer(0);
        x.answer(false);
        x.resign(1);
        due("resign", x.undo(), 5);
        due("answer", x.undo(), 4);
        due("question", x.game(6), 2);
        due("offer", x.undo(), 3);
        due("question", x.game(6), 0);
        due("pass", x.undo(), 2);
        due("gone", x.player(0, 2), 0);
    }

    private static void fingerprint() {
        promise = 26;
        ClockedGame x = new ClockedGame();
        due("fingerprint", x.fingerprint(), printOf(x));
        x.pass(33);
        moves(x, "a2b3 a5a4 b3a4");
        x.ask(1);
        due("fingerprint", x.fingerprint(), printOf(x));
        x.type('a');
        due("without the buffer", x.fingerprint(), printOf(x));
        x.answer(true);
        x.resign(0);
        due("fingerprint", x.fingerprint(), printOf(x));
    }

    private static long printOf(ClockedGame x) {
        long f = 227;
        for (int i = 0; i < 7; i++) f = f * 31 + x.setting(i);
        for (int i = 0; i < 9; i++) f = f * 31 + x.game(i);
        for (int i = 0; i < 36; i++) f = f * 31 + x.at(i);
        for (int p = 0; p < 2; p++) for (int i = 0; i < 7; i++) f = f * 31 + x.player(p, i);
        f = f * 31 + x.written();
        for (int i = 0; i < x.written(); i++) f = f * 31 + x.sign(i);
        return f;
    }

    private static void constants() {
        promise = 0;
        due("BAD", ClockedGame.BAD, BAD);
        due("STATE", ClockedGame.STATE, STATE);
        due("FULL", ClockedGame.FULL, FULL);
        due("NONE", ClockedGame.NONE, NONE);
    }

    public static void main(String[] args) {
        constants();
        newObject();
        begin();
        set();
        setting();
        pass();
        move();
        whyNot();
        seal();
        resume();
        ask();
        offer();
        answer();
        resign();
        claim();
        at();
        game();
        player();
        possible();
        written();
        sign();
        mean();
        type();
        clear();
        play();
        undo();
        fingerprint();
        tell();
    }
}
