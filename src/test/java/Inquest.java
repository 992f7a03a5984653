import java.util.ArrayList;
import java.util.List;

/**
 * Asks an object for all that can be known of it, some 150 calls, in the end by doing its text and going back to what
 * it kept: two objects that answer alike are in the same state.
 */
final class Inquest {
    private final WhiteKnights x;
    private final List<String> answers = new ArrayList<>();

    private Inquest(WhiteKnights x) {
        this.x = x;
    }

    static List<String> of(WhiteKnights x) {
        Inquest inquest = new Inquest(x);
        inquest.askAll();
        return inquest.answers;
    }

    /** Two objects made alike, to one of which something was done that may change nothing. */
    static void same(Check check, String done, WhiteKnights touched, WhiteKnights untouched) {
        List<String> got = of(touched);
        List<String> want = of(untouched);
        for (int i = 0; i < want.size(); i++) {
            if (got.get(i).equals(want.get(i))) continue;
            check.due(done + " changes " + got.get(i) + ", which was " + want.get(i), false);
            return;
        }
    }

    private void askAll() {
        askWhatIsTold();
        askForetold();
        for (int k = 0; k < 2; k++) {
            say("back(" + k + ")", x.back(k));
            askPlaces();
        }
        say("burn()", x.burn());
        say("fault()", x.fault());
        say("board()", x.board());
        say("erase()", x.erase());
        askWhatIsTold();
        say("back(0)", x.back(0));
        say("back(1)", x.back(1));
    }

    private void say(String call, int answer) {
        answers.add(call + " = " + answer);
    }

    private void askWhatIsTold() {
        for (int what = 0; what <= 8; what++) say("count(" + what + ")", x.count(what));
        for (int square = 0; square < 12; square++) {
            say("square(" + square + ", 0)", x.square(square, 0));
            say("square(" + square + ", 2)", x.square(square, 2));
        }
        for (int man = 0; man < 4; man++) {
            say("man(" + man + ", 0)", x.man(man, 0));
            say("man(" + man + ", 1)", x.man(man, 1));
            say("man(" + man + ", 3)", x.man(man, 3));
            say("as(" + man + ", 0)", x.as(man, 0));
        }
        say("net(1, 0)", x.net(1, 0));
        askPlaces();
    }

    private void askPlaces() {
        for (int man = 0; man < 4; man++) {
            say("man(" + man + ", 2)", x.man(man, 2));
            say("may(" + man + ")", x.may(man));
        }
        say("attacked()", x.attacked());
        say("count(5)", x.count(5));
        say("judge()", x.judge());
    }

    private void askForetold() {
        say("fewest()", x.fewest());
        say("alike()", x.alike());
        say("farthest(0)", x.farthest(0));
        say("farthest(1)", x.farthest(1));
        say("many(2)", x.many(2));
        say("way(0, 0)", x.way(0, 0));
        say("way(0, 1)", x.way(0, 1));
        for (int kind = 0; kind < 4; kind++) say("turned(" + kind + ")", x.turned(kind));
    }
}
